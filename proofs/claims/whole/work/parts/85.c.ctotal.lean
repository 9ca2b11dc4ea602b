/-! THE CLASS: what comes to the river -/
section
variable {σ : ah_H} {t : Nat} {D : DD} {st : Nat → Option Nat} {T : Tbl} {g : Nat → Nat} {c w m : Nat}
theorem c_to51 (hW0 : Wf σ) (h7 : nC D ≤ 7) (hg : GaR σ D st c (nC D)) (hk0 : CKid σ D st T c) (hb : CBd D st T g c) (hm4 : mc D ≤ 12) (hw : w < nP D) (hw4 : nP D ≤ 4) (hm1 : lc D ≤ m) (hm2 : m ≤ mc D) : ∀ i k fu x2 τ, k + i = nC D → nC D - k < fu → Fr (fun a j => a = 163 ∧ j = 0) σ τ → Rp ((k + 1 : Nat) * NV) x2 (ah_L τ 163 0) (dS (nx D st) c (coT T w m) k) → ∃ z2 τ', f_X0_total_51 fu 163 (nI (w * 13 + m)) x2 (nI (cnt (kd (nx D st) c) k)) τ = f_X0_total_109 z2 τ' ∧ Fr (fun a j => a = 163 ∧ j = 0) σ τ' ∧ Rp ((nC D + 1 : Nat) * NV) z2 (ah_L τ' 163 0) (dS (nx D st) c (coT T w m) (nC D)) := by
  have hat : w * 13 + m < 52 := by omega
  have hNV : NV = 100000000000000000 := rfl
  have hcl := cnt_le (kd (nx D st) c) (nC D)
  intro i
  induction i with
  | zero =>
    intro k fu x2 τ hk hf gf r2
    obtain ⟨fu, rfl⟩ : ∃ q, fu = q + 1 := ⟨fu - 1, by omega⟩
    obtain rfl : k = nC D := by omega
    have hW : Wf τ := hW0.fr gf
    have g8 : ah_I τ 163 8 = nI (cnt (kd (nx D st) c) (nC D)) := by rw [gf.I (by omega)]; exact hg.1
    refine ⟨x2, τ, ?_, gf, r2⟩
    show f_X0_total_51_b _ _ _ _ _ _ = _
    unfold f_X0_total_51_b
    simp only [to_bq, l_0, l_1, l_2, l_3, l_4, l_5, l_6, l_7, l_8, l_9, l_10, l_11, l_12, l_13, l_14, l_15, l_16, l_17, l_18, l_19, l_20, l_21, l_22, l_23, l_24, l_25, l_26, l_27, l_28, l_29, l_30, l_31, l_32, l_40, l_41, l_42, l_43, l_44, l_45, l_46, l_47, l_48, l_49, l_50, l_51, l_52, l_53, l_54, l_55, l_56, l_57, l_58, l_59, l_60, l_61, l_62, l_63, l_64, l_72, l_97, l_99, l_100, l_104, l_120, l_122, l_128, l_140, l_255, l_256, l_257, l_258, l_260, l_261, l_262, l_364, l_680, l_700, l_701, l_840, l_999, l_1023, l_1024, l_9999, l_10000, l_1000000, lm]
    simp (disch := first | (with_reducible assumption) | omega | exact ⟨by omega, by omega⟩ | ((with_reducible first | apply Wf.wI | apply Wf.wL | apply Wf.fL | apply Wf.fI | apply Wf.fr); (repeat (with_reducible first | assumption | apply Wf.wI | apply Wf.wL | apply Wf.fL | apply Wf.fI | apply Wf.fr)))) only [ck_163, gI_163, gL_163, pI_163, pZ0_163, pZ1_163, pL_163, gR_163_1, gR_163_2, gR_163_3, gR_163_5, gR_163_6, gR_163_7, gR_163_9, gR_163_10, gR_163_11, gR_163_12, gR_163_13, gR_163_14, gR_163_15, pR_163_17, gR_163_17, bq_n, bd_s, mp_s, rz_0, rz_1, bI_rz, zadd, zmul, zsub, le_nI, lt_nI, eq_nI, neg_nI, gen_nI, neg_lt, neg_le, neg_lt', neg_le', nI_lt0, if_true, if_false, ite_true, ite_false, reduceIte, not_true, not_false, and_true, true_and, and_false, false_and, or_true, true_or, or_false, false_or, eq_self, g8, Nat.le_refl]
  | succ i ih =>
    intro k fu x2 τ hk hf gf r2
    have hk' : k < nC D := by omega
    by_cases q : nx D st k = some c
    · obtain ⟨fu, rfl⟩ : ∃ q, fu = q + 1 := ⟨fu - 1, by omega⟩
      have hW : Wf τ := hW0.fr gf
      have hck := cnt_kt q
      have hcu := cnt_up (kd (nx D st) c) (show k + 1 ≤ nC D by omega)
      have g8 : ah_I τ 163 8 = nI (cnt (kd (nx D st) c) (nC D)) := by rw [gf.I (by omega)]; exact hg.1
      have e168 : ah_I τ 168 (cnt (kd (nx D st) c) k) = nI k := by rw [gf.I (by omega)]; exact hg.2 k hk' q
      have eu := (hk0 k hk' q w m hw hm1 hm2).2
      have l1 : ah_L τ (178 + k) (w * 13 + m) = ah_L σ (178 + k) (w * 13 + m) := gf.L (by omega)
      have l2 : ah_L τ (178 + k) (52 + (w * 13 + m)) = ah_L σ (178 + k) (52 + (w * 13 + m)) := gf.L (by omega)
      have lS := (dS_b hb (coT T w m) (fun o ho hx => com_b hb ho hx w m) k (by omega)).add q (com_b hb hk' q w m)
      have hBk : (100000000000000000 : Int) ≤ ((k + 1 : Nat) : Int) * NV := by rw [hNV]; omega
      have hBs : ((k + 1 : Nat) : Int) * NV + NV = ((k + 1 + 1 : Nat) : Int) * NV := by rw [hNV]; omega
      have aS := Rp.add r2 eu hBk (by rw [hNV]; omega) (lS.lim (by omega) h7 hb)
      have eS : dS (nx D st) c (coT T w m) (k + 1) = vadd (dS (nx D st) c (coT T w m) k) (comT T k w m) := by
        show vadd (dS (nx D st) c (coT T w m) k) (if nx D st k = some c then coT T w m k else some (0, 0)) = _
        rw [if_pos q]; rfl
      rw [hBs, ← eS] at aS
      have he : f_X0_total_51 (fu + 1) 163 (nI (w * 13 + m)) x2 (nI (cnt (kd (nx D st) c) k)) τ = f_X0_total_51 fu 163 (nI (w * 13 + m)) (x2 + ah_L σ (178 + k) (w * 13 + m)) (nI (cnt (kd (nx D st) c) (k + 1))) (ah_wL τ 163 0 (ah_L τ 163 0 + ah_L σ (178 + k) (52 + (w * 13 + m)))) := by
        show f_X0_total_51_b _ _ _ _ _ _ = _
        unfold f_X0_total_51_b
        simp only [to_bq, l_0, l_1, l_2, l_3, l_4, l_5, l_6, l_7, l_8, l_9, l_10, l_11, l_12, l_13, l_14, l_15, l_16, l_17, l_18, l_19, l_20, l_21, l_22, l_23, l_24, l_25, l_26, l_27, l_28, l_29, l_30, l_31, l_32, l_40, l_41, l_42, l_43, l_44, l_45, l_46, l_47, l_48, l_49, l_50, l_51, l_52, l_53, l_54, l_55, l_56, l_57, l_58, l_59, l_60, l_61, l_62, l_63, l_64, l_72, l_97, l_99, l_100, l_104, l_120, l_122, l_128, l_140, l_255, l_256, l_257, l_258, l_260, l_261, l_262, l_364, l_680, l_700, l_701, l_840, l_999, l_1023, l_1024, l_9999, l_10000, l_1000000, lm]
        simp (disch := first | (with_reducible assumption) | omega | exact ⟨by omega, by omega⟩ | ((with_reducible first | apply Wf.wI | apply Wf.wL | apply Wf.fL | apply Wf.fI | apply Wf.fr); (repeat (with_reducible first | assumption | apply Wf.wI | apply Wf.wL | apply Wf.fL | apply Wf.fI | apply Wf.fr)))) only [ck_163, gI_163, gL_163, pI_163, pZ0_163, pZ1_163, pL_163, gR_163_1, gR_163_2, gR_163_3, gR_163_5, gR_163_6, gR_163_7, gR_163_9, gR_163_10, gR_163_11, gR_163_12, gR_163_13, gR_163_14, gR_163_15, pR_163_17, gR_163_17, aI_168, sI_168, len_168, bq_n, bd_s, mp_s, rz_0, rz_1, bI_rz, zadd, zmul, zsub, le_nI, lt_nI, eq_nI, neg_nI, gen_nI, neg_lt, neg_le, neg_lt', neg_le', nI_lt0, if_true, if_false, ite_true, ite_false, reduceIte, not_true, not_false, and_true, true_and, and_false, false_and, or_true, true_or, or_false, false_or, eq_self, g8, show (cnt (kd (nx D st) c) (nC D) ≤ cnt (kd (nx D st) c) k) = False from eq_false (by omega), e168, aR_under, aL_under, l1, l2]
        rw [hck]
      rw [he]
      refine ih (k + 1) fu _ _ (by omega) (by omega) (gf.wL ⟨rfl, rfl⟩) ?_
      rw [rL_eq]
      exact aS
    · rw [← cnt_kf q]
      have hmono : ((k + 1 : Nat) : Int) * NV ≤ ((k + 1 + 1 : Nat) : Int) * NV := by rw [hNV]; omega
      have eS : dS (nx D st) c (coT T w m) (k + 1) = dS (nx D st) c (coT T w m) k := by
        show vadd (dS (nx D st) c (coT T w m) k) (if nx D st k = some c then coT T w m k else some (0, 0)) = _
        rw [if_neg q, vadd_z]
      exact ih (k + 1) fu _ _ (by omega) (by omega) gf (by rw [eS]; exact r2.mono hmono)
/-- the answer for what comes to the river -/
def totA (o : VV) : Int64 := match o with
  | none => iL (-2)
  | some x => iL (x.1 : Int)
theorem c_to109 {B : Int} {z k : Int64} {o : VV} (h : Rp B z k o) (hB : B < 9223372036854775808) : f_X0_total_109 z σ = some (totA o, σ) := by
  unfold f_X0_total_109
  simp only [to_bq, l_0, l_1, l_2, l_3, l_4, l_5, l_6, l_7, l_8, l_9, l_10, l_11, l_12, l_13, l_14, l_15, l_16, l_17, l_18, l_19, l_20, l_21, l_22, l_23, l_24, l_25, l_26, l_27, l_28, l_29, l_30, l_31, l_32, l_40, l_41, l_42, l_43, l_44, l_45, l_46, l_47, l_48, l_49, l_50, l_51, l_52, l_53, l_54, l_55, l_56, l_57, l_58, l_59, l_60, l_61, l_62, l_63, l_64, l_72, l_97, l_99, l_100, l_104, l_120, l_122, l_128, l_140, l_255, l_256, l_257, l_258, l_260, l_261, l_262, l_364, l_680, l_700, l_701, l_840, l_999, l_1023, l_1024, l_9999, l_10000, l_1000000, lm]
  rw [q_100000000000000000, q_m2]
  cases o with
  | none =>
    obtain ⟨y, y1, y2, y3⟩ := h
    rw [y1, if_pos (by rw [cmp_ge ⟨by omega, by omega⟩ ⟨by omega, by omega⟩]; exact y2)]; rfl
  | some x =>
    obtain ⟨y1, y2, y3, y4⟩ := h
    rw [y1, if_neg (by rw [cmp_ge ⟨by omega, by omega⟩ ⟨by omega, by omega⟩]; omega)]; rfl
theorem c_total (h : TR σ t D) (hp0 : ah_R σ 163 17 = some t) (hg : GaR σ D st c (nC D)) (hk0 : CKid σ D st T c) (hb : CBd D st T g c) (hz : ah_L σ 163 0 = iL 0) : ∃ τ, f_X0_total 163 σ = some (totA (if cnt (kd (nx D st) c) (nC D) = 0 then some (0, 0) else if nP D = 0 then none else dS (nx D st) c (coT T (nP D - 1) (mc D)) (nC D)), τ) ∧ Fr (fun a j => a = 163 ∧ j = 0) σ τ ∧ ∀ x, (if cnt (kd (nx D st) c) (nC D) = 0 then some (0, 0) else if nP D = 0 then none else dS (nx D st) c (coT T (nP D - 1) (mc D)) (nC D)) = some x → ah_L τ 163 0 = iL ((x.2 : Nat) : Int) := by
  have hNV : NV = 100000000000000000 := rfl
  have hW := h.w
  have htn := h.tn
  have b7 := h.t.qc7
  have b4 := h.t.qp4
  have b12 := h.t.qmc12
  have hlm := h.t.qlmc
  have hcl := cnt_le (kd (nx D st) c) (nC D)
  unfold f_X0_total f_X0_total_0
  simp only [to_bq, l_0, l_1, l_2, l_3, l_4, l_5, l_6, l_7, l_8, l_9, l_10, l_11, l_12, l_13, l_14, l_15, l_16, l_17, l_18, l_19, l_20, l_21, l_22, l_23, l_24, l_25, l_26, l_27, l_28, l_29, l_30, l_31, l_32, l_40, l_41, l_42, l_43, l_44, l_45, l_46, l_47, l_48, l_49, l_50, l_51, l_52, l_53, l_54, l_55, l_56, l_57, l_58, l_59, l_60, l_61, l_62, l_63, l_64, l_72, l_97, l_99, l_100, l_104, l_120, l_122, l_128, l_140, l_255, l_256, l_257, l_258, l_260, l_261, l_262, l_364, l_680, l_700, l_701, l_840, l_999, l_1023, l_1024, l_9999, l_10000, l_1000000, lm]
  simp (disch := first | (with_reducible assumption) | omega | exact ⟨by omega, by omega⟩ | ((with_reducible first | apply Wf.wI | apply Wf.wL | apply Wf.fL | apply Wf.fI | apply Wf.fr); (repeat (with_reducible first | assumption | apply Wf.wI | apply Wf.wL | apply Wf.fL | apply Wf.fI | apply Wf.fr)))) only [ck_163, gI_163, gL_163, pI_163, pZ0_163, pZ1_163, pL_163, gR_163_1, gR_163_2, gR_163_3, gR_163_5, gR_163_6, gR_163_7, gR_163_9, gR_163_10, gR_163_11, gR_163_12, gR_163_13, gR_163_14, gR_163_15, pR_163_17, gR_163_17, ck_t, gI_t, gL_t, pI_t, pZ0_t, pZ1_t, pL_t, ck_w, gI_w, gL_w, pI_w, pZ0_w, pZ1_w, pL_w, gR_t_1, gR_t_5, gR_t_7, gR_t_9, gR_t_10, gR_t_11, gR_t_12, gR_t_15, gR_w_2, gR_w_3, gR_w_4, gR_w_5, gR_w_6, gR_w_7, aR_crow, aR_srow, aR_prow, aR_rrow, aI_crow, sI_crow, len_crow, aI_srow, sI_srow, len_srow, aI_prow, sI_prow, len_prow, aI_rrow, sI_rrow, len_rrow, aI_t25, sI_t25, len_t25, aI_t31, sI_t31, len_t31, aI_t32, sI_t32, len_t32, aI_t34, sI_t34, len_t34, aI_t35, sI_t35, len_t35, aI_t36, sI_t36, len_t36, aI_t37, sI_t37, len_t37, aL_t38, sL_t38, len_t38, aL_t39, sL_t39, len_t39, bq_n, bd_s, mp_s, rz_0, rz_1, bI_rz, zadd, zmul, zsub, le_nI, lt_nI, eq_nI, neg_nI, gen_nI, neg_lt, neg_le, neg_lt', neg_le', nI_lt0, hp0, hg.1, tr_P h, tr_mc h]
  by_cases q0 : cnt (kd (nx D st) c) (nC D) = 0
  · rw [if_pos q0, if_pos q0]
    refine ⟨σ, rfl, Fr.rfl, fun x hx => ?_⟩
    cases hx
    exact hz
  rw [if_neg q0, if_neg q0]
  by_cases q1 : nP D = 0
  · rw [if_pos q1, if_pos q1]
    exact ⟨σ, rfl, Fr.rfl, fun x hx => by cases hx⟩
  rw [if_neg q1, if_neg q1]
  obtain ⟨z2, τ, e1, e2, e3⟩ := c_to51 (w := nP D - 1) (m := mc D) hW b7 hg hk0 hb b12 (by omega) b4 hlm (Nat.le_refl _) (nC D) 0 5000 (iL 0) σ (by omega) (by omega) Fr.rfl ⟨rfl, hz, by show 0 < _; omega, by show 0 < _; omega⟩
  have e4 := c_to109 (σ := τ) e3 (by rw [hNV]; omega)
  refine ⟨τ, ?_, e2, fun x hx => ?_⟩
  · rw [← e4, ← e1]
    have zs : nI (nP D) - nI 1 = nI (nP D - 1) := zsub (by omega)
    simp (disch := first | (with_reducible assumption) | omega | exact ⟨by omega, by omega⟩ | ((with_reducible first | apply Wf.wI | apply Wf.wL | apply Wf.fL | apply Wf.fI | apply Wf.fr); (repeat (with_reducible first | assumption | apply Wf.wI | apply Wf.wL | apply Wf.fL | apply Wf.fI | apply Wf.fr)))) only [zadd, zmul, zsub, le_nI, lt_nI, eq_nI, neg_nI, gen_nI, neg_lt, neg_le, neg_lt', neg_le', nI_lt0, q_0]
    rfl
  · rw [hx] at e3
    exact e3.2.1
end
