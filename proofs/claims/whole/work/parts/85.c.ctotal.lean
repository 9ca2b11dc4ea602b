/-! THE CLASS: what comes to the river -/
section
variable {σ : ah_H} {t : Nat} {D : DD} {st : Nat → Option Nat} {T : Tbl} {g : Nat → Nat} {c w m : Nat}
theorem c_to51 (hW0 : Wf σ) (h7 : nC D ≤ 7) (hg : GaR σ D st c (nC D)) (hk0 : CKid σ D st T c) (hb : CBd D st T g c) (hm4 : mc D ≤ 12) (hw : w < nP D) (hw4 : nP D ≤ 4) (hm1 : lc D ≤ m) (hm2 : m ≤ mc D) : ∀ i k fu x2 τ, k + i = nC D → nC D - k < fu → Fr (fun a j => a = 163 ∧ j = 0) σ τ → Rp ((k + 1 : Nat) * NV) x2 (ah_L τ 163 0) (dS (nx D st) c (coT T w m) k) → ∃ z2 τ', f_X0_total_51 fu 163 (nI (w * 13 + m)) x2 (nI (cnt (kd (nx D st) c) k)) τ = f_X0_total_109 z2 τ' ∧ Fr (fun a j => a = 163 ∧ j = 0) σ τ' ∧ Rp ((nC D + 1 : Nat) * NV) z2 (ah_L τ' 163 0) (dS (nx D st) c (coT T w m) (nC D)) := by
  have hat : w * 13 + m < 52 := by omega
  have hNV : NV = 100000000000000000 := rfl
  have hcl := cnt_le (kd (nx D st) c) (nC D)
  intro i
  induction i with
  | zero =>
    intro k fu x2 τ hk hf gf r2
    obtain ⟨fu, rfl⟩ : ∃ q, fu = q + 1 := ⟨fu - 1, by omega⟩
    obtain rfl : k = nC D := by omega
    have hW : Wf τ := hW0.fr gf
    have g8 : ah_I τ 163 8 = nI (cnt (kd (nx D st) c) (nC D)) := by rw [gf.I (by omega)]; exact hg.1
    refine ⟨x2, τ, ?_, gf, r2⟩
    show f_X0_total_51_b _ _ _ _ _ _ = _
    unfold f_X0_total_51_b
    simp only [to_bq, l_0, l_1, l_2, l_3, l_4, l_5, l_6, l_7, l_8, l_9, l_10, l_11, l_12, l_13, l_14, l_15, l_16, l_17, l_18, l_19, l_20, l_21, l_22, l_23, l_24, l_25, l_26, l_27, l_28, l_29, l_30, l_31, l_32, l_40, l_41, l_42, l_43, l_44, l_45, l_46, l_47, l_48, l_49, l_50, l_51, l_52, l_53, l_54, l_55, l_56, l_57, l_58, l_59, l_60, l_61, l_62, l_63, l_64, l_72, l_97, l_99, l_100, l_104, l_120, l_122, l_128, l_140, l_255, l_256, l_257, l_258, l_260, l_261, l_262, l_364, l_680, l_700, l_701, l_840, l_999, l_1023, l_1024, l_9999, l_10000, l_1000000, lm]
    simp (disch := first | (with_reducible assumption) | omega | exact ⟨by omega, by omega⟩ | ((with_reducible first | apply Wf.wI | apply Wf.wL | apply Wf.fL | apply Wf.fI | apply Wf.fr); (repeat (with_reducible first | assumption | apply Wf.wI | apply Wf.wL | apply Wf.fL | apply Wf.fI | apply Wf.fr)))) only [ck_163, gI_163, gL_163, pI_163, pZ0_163, pZ1_163, pL_163, gR_163_1, gR_163_2, gR_163_3, gR_163_5, gR_163_6, gR_163_7, gR_163_9, gR_163_10, gR_163_11, gR_163_12, gR_163_13, gR_163_14, gR_163_15, pR_163_17, gR_163_17, bq_n, bd_s, mp_s, rz_0, rz_1, bI_rz, zadd, zmul, zsub, le_nI, lt_nI, eq_nI, neg_nI, gen_nI, neg_lt, neg_le, neg_lt', neg_le', nI_lt0, if_true, if_false, ite_true, ite_false, reduceIte, not_true, not_false, and_true, true_and, and_false, false_and, or_true, true_or, or_false, false_or, eq_self, g8, Nat.le_refl]
  | succ i ih =>
    intro k fu x2 τ hk hf gf r2
    have hk' : k < nC D := by omega
    by_cases q : nx D st k = some c
    · obtain ⟨fu, rfl⟩ : ∃ q, fu = q + 1 := ⟨fu - 1, by omega⟩
      have hW : Wf τ := hW0.fr gf
      have hck := cnt_kt q
      have hcu := cnt_up (kd (nx D st) c) (show k + 1 ≤ nC D by omega)
      have g8 : ah_I τ 163 8 = nI (cnt (kd (nx D st) c) (nC D)) := by rw [gf.I (by omega)]; exact hg.1
      have e168 : ah_I τ 168 (cnt (kd (nx D st) c) k) = nI k := by rw [gf.I (by omega)]; exact hg.2 k hk' q
      have eu := (hk0 k hk' q w m hw hm1 hm2).2
      have l1 : ah_L τ (178 + k) (w * 13 + m) = ah_L σ (178 + k) (w * 13 + m) := gf.L (by omega)
      have l2 : ah_L τ (178 + k) (52 + (w * 13 + m)) = ah_L σ (178 + k) (52 + (w * 13 + m)) := gf.L (by omega)
      have lS := (dS_b hb (coT T w m) (fun o ho hx => com_b hb ho hx w m) k (by omega)).add q (com_b hb hk' q w m)
      have hBk : (100000000000000000 : Int) ≤ ((k + 1 : Nat) : Int) * NV := by rw [hNV]; omega
      have hBs : ((k + 1 : Nat) : Int) * NV + NV = ((k + 1 + 1 : Nat) : Int) * NV := by rw [hNV]; omega
      have aS := Rp.add r2 eu hBk (by rw [hNV]; omega) (lS.lim (by omega) h7 hb)
      have eS : dS (nx D st) c (coT T w m) (k + 1) = vadd (dS (nx D st) c (coT T w m) k) (comT T k w m) := by
        show vadd (dS (nx D st) c (coT T w m) k) (if nx D st k = some c then coT T w m k else some (0, 0)) = _
        rw [if_pos q]; rfl
      rw [hBs, ← eS] at aS
      have he : f_X0_total_51 (fu + 1) 163 (nI (w * 13 + m)) x2 (nI (cnt (kd (nx D st) c) k)) τ = f_X0_total_51 fu 163 (nI (w * 13 + m)) (x2 + ah_L σ (178 + k) (w * 13 + m)) (nI (cnt (kd (nx D st) c) (k + 1))) (ah_wL τ 163 0 (ah_L τ 163 0 + ah_L σ (178 + k) (52 + (w * 13 + m)))) := by
        show f_X0_total_51_b _ _ _ _ _ _ = _
        unfold f_X0_total_51_b
        simp only [to_bq, l_0, l_1, l_2, l_3, l_4, l_5, l_6, l_7, l_8, l_9, l_10, l_11, l_12, l_13, l_14, l_15, l_16, l_17, l_18, l_19, l_20, l_21, l_22, l_23, l_24, l_25, l_26, l_27, l_28, l_29, l_30, l_31, l_32, l_40, l_41, l_42, l_43, l_44, l_45, l_46, l_47, l_48, l_49, l_50, l_51, l_52, l_53, l_54, l_55, l_56, l_57, l_58, l_59, l_60, l_61, l_62, l_63, l_64, l_72, l_97, l_99, l_100, l_104, l_120, l_122, l_128, l_140, l_255, l_256, l_257, l_258, l_260, l_261, l_262, l_364, l_680, l_700, l_701, l_840, l_999, l_1023, l_1024, l_9999, l_10000, l_1000000, lm]
        simp (disch := first | (with_reducible assumption) | omega | exact ⟨by omega, by omega⟩ | ((with_reducible first | apply Wf.wI | apply Wf.wL | apply Wf.fL | apply Wf.fI | apply Wf.fr); (repeat (with_reducible first | assumption | apply Wf.wI | apply Wf.wL | apply Wf.fL | apply Wf.fI | apply Wf.fr)))) only [ck_163, gI_163, gL_163, pI_163, pZ0_163, pZ1_163, pL_163, gR_163_1, gR_163_2, gR_163_3, gR_163_5, gR_163_6, gR_163_7, gR_163_9, gR_163_10, gR_163_11, gR_163_12, gR_163_13, gR_163_14, gR_163_15, pR_163_17, gR_163_17, aI_168, sI_168, len_168, bq_n, bd_s, mp_s, rz_0, rz_1, bI_rz, zadd, zmul, zsub, le_nI, lt_nI, eq_nI, neg_nI, gen_nI, neg_lt, neg_le, neg_lt', neg_le', nI_lt0, if_true, if_false, ite_true, ite_false, reduceIte, not_true, not_false, and_true, true_and, and_false, false_and, or_true, true_or, or_false, false_or, eq_self, g8, show (cnt (kd (nx D st) c) (nC D) ≤ cnt (kd (nx D st) c) k) = False from eq_false (by omega), e168, aR_under, aL_under, l1, l2]
        rw [hck]
      rw [he]
      refine ih (k + 1) fu _ _ (by omega) (by omega) (gf.wL ⟨rfl, rfl⟩) ?_
      rw [rL_eq]
      exact aS
    · rw [← cnt_kf q]
      have hmono : ((k + 1 : Nat) : Int) * NV ≤ ((k + 1 + 1 : Nat) : Int) * NV := by rw [hNV]; omega
      have eS : dS (nx D st) c (coT T w m) (k + 1) = dS (nx D st) c (coT T w m) k := by
        show vadd (dS (nx D st) c (coT T w m) k) (if nx D st k = some c then coT T w m k else some (0, 0)) = _
        rw [if_neg q, vadd_z]
      exact ih (k + 1) fu _ _ (by omega) (by omega) gf (by rw [eS]; exact r2.mono hmono)
end
