/-! TEXT OF THE CLASS -/
/-- the class behind the last line -/
def CLz (τ : ah_H) (T : Nat → Nat) (n t : Nat) (r : LnZ) : Prop := match r with
  | .inl x => CFl τ T n x.1 x.2
  | .inr (E, _, _, _) => TR τ t E ∧ ah_I τ 82 3 = nI 0 ∧ ah_I τ 82 4 = mI 1
section
variable {σ τ : ah_H} {T : Nat → Nat} {n N i t : Nat} {E : DD} {td : Nat} {o : List (Nat × Nat)}
theorem c_clear (hW : Wf σ) (htn : Tn t) (hE : IsE0 E) : ∃ τ, f_X9_clear t σ = some τ ∧ Fr (fun a _ => t ≤ a ∧ a ≤ t + 37) σ τ ∧ TR τ t E ∧ CTd τ t 0 ∧ KnC τ t [] := by
  obtain ⟨n0, n1, n2, n3, n4, n5, n6, n7, n8, n9⟩ := hE.nn
  generalize hS : ah_wI (ah_wI (ah_wI (ah_wI (ah_wI (ah_wI (ah_wI (ah_wI (ah_wI (ah_wI (ah_wI (ah_wI σ t 0 (nI 0)) t 2 (mI 1)) t 3 (mI 1)) t 4 (nI 0)) t 6 (nI 0)) t 8 (nI 0)) (t + 31) 0 (nI 1)) (t + 31) 1 (nI 9)) (t + 32) 0 (nI 2)) (t + 32) 1 (nI 8)) t 13 (nI 1)) t 14 (nI 0) = σ1
  have g1 : Fr (fun a _ => t ≤ a ∧ a ≤ t + 37) σ σ1 := by
    rw [← hS]
    exact (((((((((((Fr.rfl.wI (by omega)).wI (by omega)).wI (by omega)).wI (by omega)).wI (by omega)).wI (by omega)).wI (by omega)).wI (by omega)).wI (by omega)).wI (by omega)).wI (by omega)).wI (by omega)
  have hW1 := hW.fr g1
  have s0 : ah_I σ1 t 0 = nI 0 := by rw [← hS]; simp (disch := first | (with_reducible assumption) | omega | exact ⟨by omega, by omega⟩ | ((with_reducible first | apply Wf.wI | apply Wf.wL | apply Wf.fL | apply Wf.fI | apply Wf.fr); (repeat (with_reducible first | assumption | apply Wf.wI | apply Wf.wL | apply Wf.fL | apply Wf.fI | apply Wf.fr)))) only [rI_ne, rI_eq, rL_ne, rL_eq, ah_I_wL, ah_L_wI, ah_R_wI, ah_R_wL, ah_I_wR, ah_L_wR, rR_ne, rR_eq]
  have s2 : ah_I σ1 t 2 = mI 1 := by rw [← hS]; simp (disch := first | (with_reducible assumption) | omega | exact ⟨by omega, by omega⟩ | ((with_reducible first | apply Wf.wI | apply Wf.wL | apply Wf.fL | apply Wf.fI | apply Wf.fr); (repeat (with_reducible first | assumption | apply Wf.wI | apply Wf.wL | apply Wf.fL | apply Wf.fI | apply Wf.fr)))) only [rI_ne, rI_eq, rL_ne, rL_eq, ah_I_wL, ah_L_wI, ah_R_wI, ah_R_wL, ah_I_wR, ah_L_wR, rR_ne, rR_eq]
  have s3 : ah_I σ1 t 3 = mI 1 := by rw [← hS]; simp (disch := first | (with_reducible assumption) | omega | exact ⟨by omega, by omega⟩ | ((with_reducible first | apply Wf.wI | apply Wf.wL | apply Wf.fL | apply Wf.fI | apply Wf.fr); (repeat (with_reducible first | assumption | apply Wf.wI | apply Wf.wL | apply Wf.fL | apply Wf.fI | apply Wf.fr)))) only [rI_ne, rI_eq, rL_ne, rL_eq, ah_I_wL, ah_L_wI, ah_R_wI, ah_R_wL, ah_I_wR, ah_L_wR, rR_ne, rR_eq]
  have s4 : ah_I σ1 t 4 = nI 0 := by rw [← hS]; simp (disch := first | (with_reducible assumption) | omega | exact ⟨by omega, by omega⟩ | ((with_reducible first | apply Wf.wI | apply Wf.wL | apply Wf.fL | apply Wf.fI | apply Wf.fr); (repeat (with_reducible first | assumption | apply Wf.wI | apply Wf.wL | apply Wf.fL | apply Wf.fI | apply Wf.fr)))) only [rI_ne, rI_eq, rL_ne, rL_eq, ah_I_wL, ah_L_wI, ah_R_wI, ah_R_wL, ah_I_wR, ah_L_wR, rR_ne, rR_eq]
  have s6 : ah_I σ1 t 6 = nI 0 := by rw [← hS]; simp (disch := first | (with_reducible assumption) | omega | exact ⟨by omega, by omega⟩ | ((with_reducible first | apply Wf.wI | apply Wf.wL | apply Wf.fL | apply Wf.fI | apply Wf.fr); (repeat (with_reducible first | assumption | apply Wf.wI | apply Wf.wL | apply Wf.fL | apply Wf.fI | apply Wf.fr)))) only [rI_ne, rI_eq, rL_ne, rL_eq, ah_I_wL, ah_L_wI, ah_R_wI, ah_R_wL, ah_I_wR, ah_L_wR, rR_ne, rR_eq]
  have s8 : ah_I σ1 t 8 = nI 0 := by rw [← hS]; simp (disch := first | (with_reducible assumption) | omega | exact ⟨by omega, by omega⟩ | ((with_reducible first | apply Wf.wI | apply Wf.wL | apply Wf.fL | apply Wf.fI | apply Wf.fr); (repeat (with_reducible first | assumption | apply Wf.wI | apply Wf.wL | apply Wf.fL | apply Wf.fI | apply Wf.fr)))) only [rI_ne, rI_eq, rL_ne, rL_eq, ah_I_wL, ah_L_wI, ah_R_wI, ah_R_wL, ah_I_wR, ah_L_wR, rR_ne, rR_eq]
  have s13 : ah_I σ1 t 13 = nI 1 := by rw [← hS]; simp (disch := first | (with_reducible assumption) | omega | exact ⟨by omega, by omega⟩ | ((with_reducible first | apply Wf.wI | apply Wf.wL | apply Wf.fL | apply Wf.fI | apply Wf.fr); (repeat (with_reducible first | assumption | apply Wf.wI | apply Wf.wL | apply Wf.fL | apply Wf.fI | apply Wf.fr)))) only [rI_ne, rI_eq, rL_ne, rL_eq, ah_I_wL, ah_L_wI, ah_R_wI, ah_R_wL, ah_I_wR, ah_L_wR, rR_ne, rR_eq]
  have s14 : ah_I σ1 t 14 = nI 0 := by rw [← hS]; simp (disch := first | (with_reducible assumption) | omega | exact ⟨by omega, by omega⟩ | ((with_reducible first | apply Wf.wI | apply Wf.wL | apply Wf.fL | apply Wf.fI | apply Wf.fr); (repeat (with_reducible first | assumption | apply Wf.wI | apply Wf.wL | apply Wf.fL | apply Wf.fI | apply Wf.fr)))) only [rI_ne, rI_eq, rL_ne, rL_eq, ah_I_wL, ah_L_wI, ah_R_wI, ah_R_wL, ah_I_wR, ah_L_wR, rR_ne, rR_eq]
  have s310 : ah_I σ1 (t + 31) 0 = nI 1 := by rw [← hS]; simp (disch := first | (with_reducible assumption) | omega | exact ⟨by omega, by omega⟩ | ((with_reducible first | apply Wf.wI | apply Wf.wL | apply Wf.fL | apply Wf.fI | apply Wf.fr); (repeat (with_reducible first | assumption | apply Wf.wI | apply Wf.wL | apply Wf.fL | apply Wf.fI | apply Wf.fr)))) only [rI_ne, rI_eq, rL_ne, rL_eq, ah_I_wL, ah_L_wI, ah_R_wI, ah_R_wL, ah_I_wR, ah_L_wR, rR_ne, rR_eq]
  have s311 : ah_I σ1 (t + 31) 1 = nI 9 := by rw [← hS]; simp (disch := first | (with_reducible assumption) | omega | exact ⟨by omega, by omega⟩ | ((with_reducible first | apply Wf.wI | apply Wf.wL | apply Wf.fL | apply Wf.fI | apply Wf.fr); (repeat (with_reducible first | assumption | apply Wf.wI | apply Wf.wL | apply Wf.fL | apply Wf.fI | apply Wf.fr)))) only [rI_ne, rI_eq, rL_ne, rL_eq, ah_I_wL, ah_L_wI, ah_R_wI, ah_R_wL, ah_I_wR, ah_L_wR, rR_ne, rR_eq]
  have s320 : ah_I σ1 (t + 32) 0 = nI 2 := by rw [← hS]; simp (disch := first | (with_reducible assumption) | omega | exact ⟨by omega, by omega⟩ | ((with_reducible first | apply Wf.wI | apply Wf.wL | apply Wf.fL | apply Wf.fI | apply Wf.fr); (repeat (with_reducible first | assumption | apply Wf.wI | apply Wf.wL | apply Wf.fL | apply Wf.fI | apply Wf.fr)))) only [rI_ne, rI_eq, rL_ne, rL_eq, ah_I_wL, ah_L_wI, ah_R_wI, ah_R_wL, ah_I_wR, ah_L_wR, rR_ne, rR_eq]
  have s321 : ah_I σ1 (t + 32) 1 = nI 8 := by rw [← hS]; simp (disch := first | (with_reducible assumption) | omega | exact ⟨by omega, by omega⟩ | ((with_reducible first | apply Wf.wI | apply Wf.wL | apply Wf.fL | apply Wf.fI | apply Wf.fr); (repeat (with_reducible first | assumption | apply Wf.wI | apply Wf.wL | apply Wf.fL | apply Wf.fI | apply Wf.fr)))) only [rI_ne, rI_eq, rL_ne, rL_eq, ah_I_wL, ah_L_wI, ah_R_wI, ah_R_wL, ah_I_wR, ah_L_wR, rR_ne, rR_eq]
  have hW2 : Wf (ah_wI (ah_wI σ1 (t + 33) 0 (nI 0)) (t + 33) 1 (nI 0)) := (hW1.wI _ _ _).wI _ _ _
  have hW3 : Wf (ah_fI (ah_wI (ah_wI σ1 (t + 33) 0 (nI 0)) (t + 33) 1 (nI 0)) (t + 36) 0 3 (nI 0)) := hW2.fr (X := fun a _ => a = t + 36) (Fr.rfl.fI (fun j _ _ => rfl))
  generalize hS4 : ah_fI (ah_fI (ah_wI (ah_wI σ1 (t + 33) 0 (nI 0)) (t + 33) 1 (nI 0)) (t + 36) 0 3 (nI 0)) (t + 37) 0 3 (nI 0) = τ
  have g4 : Fr (fun a j => a = t + 33 ∧ j ≤ 1 ∨ (a = t + 36 ∨ a = t + 37) ∧ j < 3) σ1 τ := by
    rw [← hS4]
    exact (((Fr.rfl.wI (by omega)).wI (by omega)).fI (fun j _ _ => by omega)).fI (fun j _ _ => by omega)
  have v330 : ah_I τ (t + 33) 0 = nI 0 := by rw [← hS4, I_fI, if_neg (by omega), I_fI, if_neg (by omega), rI_ne (by omega), rI_eq]
  have v331 : ah_I τ (t + 33) 1 = nI 0 := by rw [← hS4, I_fI, if_neg (by omega), I_fI, if_neg (by omega), rI_eq]
  have v36 : ∀ k, k < 3 → ah_I τ (t + 36) k = nI 0 := fun k hk => by rw [← hS4, I_fI, if_neg (by omega), I_fI, if_pos (by omega)]
  have v37 : ∀ k, k < 3 → ah_I τ (t + 37) k = nI 0 := fun k hk => by rw [← hS4, I_fI, if_pos (by omega)]
  have hLn := hE.ln
  refine ⟨τ, ?_, g1.trans (g4.mono (fun a j z => by omega)), ⟨htn, hW1.fr g4, hLn.1, ?_, ?_⟩, ?_, ?_⟩
  · unfold f_X9_clear f_X9_clear_0
    simp only [to_bq, l_0, l_1, l_2, l_3, l_4, l_5, l_6, l_7, l_8, l_9, l_10, l_11, l_12, l_13, l_14, l_15, l_16, l_17, l_18, l_19, l_20, l_21, l_22, l_23, l_24, l_25, l_26, l_27, l_28, l_29, l_30, l_31, l_32, l_40, l_41, l_42, l_43, l_44, l_45, l_46, l_47, l_48, l_49, l_50, l_51, l_52, l_53, l_54, l_55, l_56, l_57, l_58, l_59, l_60, l_61, l_62, l_63, l_64, l_72, l_97, l_99, l_100, l_104, l_120, l_122, l_128, l_140, l_255, l_256, l_257, l_258, l_260, l_261, l_262, l_364, l_680, l_700, l_701, l_840, l_999, l_1023, l_1024, l_9999, l_10000, l_1000000, lm]
    simp (disch := first | (with_reducible assumption) | omega | exact ⟨by omega, by omega⟩ | ((with_reducible first | apply Wf.wI | apply Wf.wL | apply Wf.fL | apply Wf.fI | apply Wf.fr); (repeat (with_reducible first | assumption | apply Wf.wI | apply Wf.wL | apply Wf.fL | apply Wf.fI | apply Wf.fr)))) only [ck_t, gI_t, gL_t, pI_t, pZ0_t, pZ1_t, pL_t, ck_w, gI_w, gL_w, pI_w, pZ0_w, pZ1_w, pL_w, gR_t_1, gR_t_5, gR_t_7, gR_t_9, gR_t_10, gR_t_11, gR_t_12, gR_t_15, gR_w_2, gR_w_3, gR_w_4, gR_w_5, gR_w_6, gR_w_7, aR_crow, aR_srow, aR_prow, aR_rrow, aI_crow, sI_crow, len_crow, aI_srow, sI_srow, len_srow, aI_prow, sI_prow, len_prow, aI_rrow, sI_rrow, len_rrow, aI_t25, sI_t25, len_t25, aI_t31, sI_t31, len_t31, aI_t32, sI_t32, len_t32, aI_t34, sI_t34, len_t34, aI_t35, sI_t35, len_t35, aI_t36, sI_t36, len_t36, aI_t37, sI_t37, len_t37, aL_t38, sL_t38, len_t38, aL_t39, sL_t39, len_t39, bq_n, bd_s, mp_s, rz_0, rz_1, bI_rz, hS]
    have e4 : f_X4_clear (t + 33) σ1 = some τ := by
      unfold f_X4_clear f_X4_clear_0
      rw [ck_w hW1 htn, show (0 : Int32) = nI 0 from l_0, pI_w hW1 htn, bd_s, pI_w (hW1.wI _ _ _) htn, bd_s, gR_w_4 hW2 htn, bd_s, c_fillI _ hW2 (S0_t36 htn) (by omega), bd_s, gR_w_5 hW3 htn, bd_s, c_fillI _ hW3 (S0_t37 htn) (by omega), bd_s, hS4]
    rw [e4]
    rfl
  · unfold TF
    rw [n0, n1, n2, n3, n4, n5, n6, n7, n8, n9, hE.1 4 (by omega), hE.1 5 (by omega)]
    exact ⟨(g4.I (by omega)).trans s0, (g4.I (by omega)).trans s2, (g4.I (by omega)).trans s3, (g4.I (by omega)).trans s4, (g4.I (by omega)).trans s6, (g4.I (by omega)).trans s8, (g4.I (by omega)).trans s13, (g4.I (by omega)).trans s310, (g4.I (by omega)).trans s311, (g4.I (by omega)).trans s320, (g4.I (by omega)).trans s321, v330⟩
  · refine ⟨fun c hc => by omega, fun c hc => by omega, fun c hc => by omega, fun c hc => by omega, fun k hk => ?_, fun c hc => by omega⟩
    unfold lfr lto
    rw [(hE.2 k hk).1, (hE.2 k hk).2, v36 k hk, v37 k hk]
    exact ⟨rfl, rfl⟩
  · exact ⟨0, (g4.I (by omega)).trans s14, by decide, fun w hw => by simp⟩
  · exact ⟨by decide, v330, v331, fun j hj => absurd hj (Nat.not_lt_zero j)⟩
theorem c_is59 (h : CAt σ T n N i) : f_X8_isSign 83 (30 : Int32) σ = some (cI (tS (tks T n i) = 3 ∧ tV (tks T n i) = 59), σ) := by
  have k30 := sgc_30 (v := tV (tks T n i))
  rw [show (30 : Int32) = nI 30 from l_30, c_isSign h (by omega)]
  congr 2
  exact cI_eq ⟨fun w => ⟨w.1, k30.1.mp w.2⟩, fun w => ⟨w.1, k30.1.mpr w.2⟩⟩
/-- line by line -/
theorem c_lns (htn : Tn t) (hv : ∀ i, TVb (tks T n i)) : ∀ f i E td o ls fu (σ ρ : ah_H), N + 1 - i ≤ f → f < fu → 2 * ls ≤ i → CLn σ T n N t i E td o → RLs ρ T n i E td o → ∃ τ, f_X7_read_32 fu 82 (nI ls) σ = some (ansT (lns (tks T n) f i E td o ls), τ) ∧ Fr (Xcx t) σ τ ∧ CLz τ T n t (lns (tks T n) f i E td o ls) := by
  intro f
  induction f with
  | zero => intro i E td o ls fu σ ρ h1 h2 h3 h; have := h.1.2.2.1; omega
  | succ f ih =>
    intro i E td o ls fu σ ρ h1 h2 h3 h hR
    obtain ⟨fu, rfl⟩ : ∃ q, fu = q + 1 := ⟨fu - 1, by omega⟩
    obtain ⟨hA, hT, hr, hCT, hK⟩ := id h
    obtain ⟨r1, r2, r3, r4, r5⟩ := hR
    have hW := hA.w
    have hTt : t = 2 ∨ t = 42 := htn
    obtain ⟨-, hTk, hiN, -, hk, -, u3, u4⟩ := id hA
    have hN7 := hTk.1
    have hs8 : ∀ a j, Xs8 a j → Xcx t a j := fun a j z => Or.inr (Or.inl (Xs8_r a j z))
    have e0 : f_X7_read_32 (fu + 1) 82 (nI ls) σ = f_X7_read_32_b (f_X7_read_32 fu) 82 (nI ls) σ := rfl
    rw [e0]
    unfold f_X7_read_32_b
    rw [if_neg (show ¬ (700 : Int32) ≤ nI ls by rw [show (700 : Int32) = nI 700 from l_700, le_nI (by omega) (by omega)]; omega), gR_82_0 hW, bd_s, gI_83 hW, bd_s, lns_s]
    by_cases z : tS (tks T n i) = 4
    · rw [if_pos z, if_pos (show ah_I σ 83 8 = (0 : Int32) from hk.end4.mpr z)]
      exact ⟨σ, rfl, Fr.rfl, hT, u3, u4⟩
    · rw [if_neg z, if_neg (show ¬ ah_I σ 83 8 = (0 : Int32) from fun q => z (hk.end4.mp q))]
      obtain ⟨ρ', p1, p2, p3⟩ := m_line r1 r2 r3 r4 r5
      have hM : tS (tks T n i) = 0 → tV (tks T n i) = 7 → ∀ r, sLaw (tks T n) (i + 1) E (td ||| 2 ^ 7) o = .inr r → MT r.2.1 := fun q1 q2 r q3 => by
        have eL : lin (tks T n) i E td o = lawF (sLaw (tks T n) (i + 1) E (td ||| 2 ^ 7) o) := by
          unfold lin
          rw [if_pos ⟨q1, by omega⟩, if_neg (by rw [q2]; omega), if_neg (by rw [q2]; omega), q2]
          exact if_pos rfl
        obtain ⟨i', E', td', o'⟩ := r
        rw [eL, q3] at p3
        exact p3.2.2.2.1.1
      obtain ⟨τ, c1, c2⟩ := c_rline h hv r4 z hM
      generalize hL : lin (tks T n) i E td o = L at *
      rcases c2 with ⟨f', j, c2, c3, c4⟩ | ⟨i1, c2, c3, c4, c5⟩ | ⟨i1, E', td', o', c2, c3, c4, c5⟩
      · rw [c2, c3, bd_s, if_pos (show nI 0 = (0 : Int32) from rfl)]
        exact ⟨τ, rfl, c1, c4⟩
      · rw [c2, c3, bd_s, if_neg (show ¬ nI 1 = (0 : Int32) by decide), gR_82_0 c4.w, bd_s, c_is59 c4, bd_s, if_pos (show (cI (tS (tks T n i1) = 3 ∧ tV (tks T n i1) = 59), τ).1 = (0 : Int32) from cI_f c5)]
        obtain ⟨υ, d1, d2, d3⟩ := c_fail c4 (f := 1)
        refine ⟨υ, ?_, c1.trans (d2.mono Xrn_x), d3⟩
        unfold f_X7_read_70
        rw [show f_X7_fail 82 (1 : Int32) τ = some (nI 0, υ) from d1, bd_s]
        rfl
      · obtain ⟨cA, cT, cr, cC, cK⟩ := c5
        rw [c2, c3, bd_s, if_neg (show ¬ nI 1 = (0 : Int32) by decide), gR_82_0 cA.w, bd_s, c_is59 cA, bd_s, if_neg (show ¬ (cI (tS (tks T n i1) = 3 ∧ tV (tks T n i1) = 59), τ).1 = (0 : Int32) from fun q => absurd ((cI_t c4).symm.trans q) (by decide)), gR_82_0 cA.w, bd_s]
        obtain ⟨υ, d1, d2, d3⟩ := c_step cA (by omega)
        rw [d1, bd_s, l_1, zadd]
        rw [c2] at p3
        obtain ⟨l1, l2⟩ := lin_lt (tks_aft hTk.2.1) (hL.trans c2)
        have hCL : CLn υ T n N t (i1 + 1) E' td' o' := by
          refine ⟨d3, cT.fr d2 (fun a j y1 y2 => by unfold Xs8; omega), (d2.R (Or.inr (by unfold Xs8; omega))).trans cr, ?_, cK.fr2 d2 (fun a j y1 y2 => by unfold Xs8; omega)⟩
          obtain ⟨m, m1, m2, m3⟩ := cC
          exact ⟨m, (d2.I (by unfold Xs8; omega)).trans m1, m2, m3⟩
        obtain ⟨χ, x1, x2, x3⟩ := ih (i1 + 1) E' td' o' (ls + 1) fu υ ρ' (by omega) (by omega) (by omega) hCL ⟨p3.1, p3.2.1, p3.2.2.1, p3.2.2.2.1, p3.2.2.2.2.1⟩
        exact ⟨χ, x1, (c1.trans (d2.mono hs8)).trans x2, x3⟩
def Xrd (t a : Nat) (_j : Nat) : Prop := t ≤ a ∧ a ≤ t + 37 ∨ a = 82 ∨ a = 83 ∨ 85 ≤ a ∧ a ≤ 89
theorem Xcx_d : ∀ a j, Xcx t a j → Xrd t a j := by
  intro a j z
  unfold Xcx Xcw Xlw Xfm Xs8 Xcm Xrn at z
  unfold Xrd
  omega
theorem c_read {ρ : ah_H} (hW : Wf σ) (htn : Tn t) (hn : n ≤ 700) (hb : ∀ j, j < n → ah_I σ 1 j = bvt (T j) ∧ T j ≤ 255) (hk : ∀ k, k < 24 → ah_I σ 84 k = kyv k) (hE : IsE0 E) (hR : RLs ρ T n 0 E 0 []) (hv : ∀ i, TVb (tks T n i)) : ∃ τ, f_X7_read 82 t (nI n) σ = some (ansT (lns (tks T n) 701 0 E 0 [] 0), τ) ∧ Fr (Xrd t) σ τ ∧ CLz τ T n t (lns (tks T n) 701 0 E 0 [] 0) := by
  have hTt : t = 2 ∨ t = 42 := htn
  have g1 : Fr (Xrd t) σ (ah_wR σ 82 2 (some t)) := Fr.rfl.wR (by decide) (by unfold Xrd; omega)
  have hW1 := hW.fr g1
  have hR1 : ah_R (ah_wR σ 82 2 (some t)) 82 2 = some t := rR_eq
  obtain ⟨σ2, a1, a2, a3, a4, a5⟩ := c_clear hW1 htn hE
  have hW2 := hW1.fr a2
  have g2 : Fr (fun a j => a = 82 ∧ (j = 3 ∨ j = 4)) σ2 (ah_wI (ah_wI σ2 82 3 (nI 0)) 82 4 (mI 1)) := (Fr.rfl.wI (by omega)).wI (by omega)
  have b3 : ah_I (ah_wI (ah_wI σ2 82 3 (nI 0)) 82 4 (mI 1)) 82 3 = nI 0 := by rw [rI_ne (by omega), rI_eq]
  have b4 : ah_I (ah_wI (ah_wI σ2 82 3 (nI 0)) 82 4 (mI 1)) 82 4 = mI 1 := rI_eq
  have hW3 := hW2.fr g2
  have g3 : Fr (Xrd t) σ (ah_wI (ah_wI σ2 82 3 (nI 0)) 82 4 (mI 1)) := (g1.trans (a2.mono (fun a j z => by unfold Xrd; omega))).trans (g2.mono (fun a j z => by unfold Xrd; omega))
  obtain ⟨σ4, N, d1, d2, d3⟩ := c_start (T := T) (n := n) hW3 hn (fun j hj => by rw [g3.I (by unfold Xrd; omega)]; exact hb j hj) (fun k hk' => by rw [g3.I (by unfold Xrd; omega)]; exact hk k hk') ⟨b3, b4⟩
  have hCL : CLn σ4 T n N t 0 E 0 [] := by
    refine ⟨d3, (a3.fr g2 (fun a j y1 y2 => by omega)).fr d2 (fun a j y1 y2 => by unfold Xsr; omega), ?_, ?_, ?_⟩
    · rw [d2.R (Or.inr (by unfold Xsr; omega)), g2.R (Or.inr (by omega)), a2.R (Or.inr (by omega))]; exact hR1
    · obtain ⟨m, m1, m2, m3⟩ := a4
      exact ⟨m, by rw [d2.I (by unfold Xsr; omega), g2.I (by omega)]; exact m1, m2, m3⟩
    · exact (a5.fr2 g2 (fun a j y1 y2 => by omega)).fr2 d2 (fun a j y1 y2 => by unfold Xsr; omega)
  have hN7 : N ≤ 700 := d3.2.1.1
  obtain ⟨τ, t1, t2, t3⟩ := c_lns htn hv 701 0 E 0 [] 0 5000 σ4 ρ (by omega) (by omega) (by omega) hCL hR
  refine ⟨τ, ?_, (g3.trans (d2.mono (fun a j z => by unfold Xsr at z; unfold Xrd; omega))).trans (t2.mono Xcx_d), t3⟩
  unfold f_X7_read f_X7_read_0
  rw [ck_82 hW, pR_82_2 hW, bd_s, gR_82_2 hW1, hR1, bd_s, a1, bd_s, show (0 : Int32) = nI 0 from l_0, pI_82 hW2, bd_s, show (-1 : Int32) = mI 1 from rfl, pI_82 (hW2.wI _ _ _), bd_s, gR_82_0 hW3, bd_s, d1, bd_s]
  exact t1
end
