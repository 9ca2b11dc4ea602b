/-! LINES OF THE REFERENCE: a line, all of it -/
section
variable {σ τ : ah_H} {T : Nat → Nat} {n i : Nat} {s : LnS} {E E' : DD} {td : Nat} {o : List (Nat × Nat)}
theorem X23_l : ∀ a j, X23 a j → Xln a j := by
  intro a j h
  rcases h with h | h
  · exact Or.inl (Xfp_t a j h)
  · exact Or.inr h
/-- behind the body of a line -/
theorem m_lfin {w : Nat} (hw7 : w ≠ 7) {σ1 : ah_H} (g0 : Fr (fun a j => a = 225 ∧ (j = 22 ∨ 25 ≤ j ∧ j ≤ 30)) σ σ1) (h22 : ah_I σ1 225 22 = nI (td ||| 2 ^ w)) (hI : LnI E td o) (hw : w ≤ 8) (hfl : ¬ isFl E w) (hkn : RKn σ1 o) (g : Fr Xbd σ1 τ) (h : RSt τ T n (bod (tks T n) E w (i, none)).1) (hE : (bod (tks T n) E w (i, none)).1.2 = none → RdE τ (bod (tks T n) E w (i, none)).2) : ∃ υ, f_X12_line_315 225 τ = some υ ∧ Fr Xln σ υ ∧ RLnO σ T n (lin2 (tks T n) w i E td o) υ := by
  obtain ⟨υ, t1, t2, t3, t4⟩ := m_315 h
  have g1 : Fr Xln σ τ := (g0.mono (fun a j z => Or.inl (Or.inl ⟨z.1, by omega⟩))).trans (g.mono (fun a j z => Or.inl (Xbd_t a j z)))
  refine ⟨υ, t1, g1.trans (t2.mono X23_l), ?_⟩
  unfold lin2
  rw [if_neg hw7]
  have hJ := fun z => hI.bod (k := tks T n) (s := (i, none)) hw hw7 hfl z
  generalize hb : bod (tks T n) E w (i, none) = B at *
  obtain ⟨⟨i1, s1⟩, E1⟩ := B
  cases s1 with
  | some x =>
    show RLnO σ T n (.inl x) υ
    exact t3
  | none =>
    have hE : RdE τ E1 := hE rfl
    have e : semi (tks T n) (i1, none) = if tS (tks T n i1) = 3 ∧ tV (tks T n i1) = 59 then (i1 + 1, none) else (i1, some (1, i1)) := rfl
    simp only at t3 t4 ⊢
    rw [e] at t3 t4 ⊢
    by_cases z : tS (tks T n i1) = 3 ∧ tV (tks T n i1) = 59
    · rw [if_pos z] at t3 t4 ⊢
      refine ⟨t3, ?_, ?_, hJ rfl, ?_, ?_⟩
      · exact hE.fr t2 (fun a j h1 h2 h3 q => by unfold X23 Xfp at q; omega)
      · rw [t2.I (by unfold X23 Xfp; omega), g.I (by unfold Xbd; omega)]; exact h22
      · exact (hkn.fr g (fun a j q => by unfold Xbd at q; omega)).fr t2 (fun a j q => by unfold X23 Xfp at q; omega)
      · rw [t4 rfl, g.I (by unfold Xbd; omega), g0.I (by omega)]
    · rw [if_neg z] at t3 ⊢
      exact t3
theorem m_l67 (h : RSt σ T n (i, none)) (hE : RdE σ E) (htd : ah_I σ 225 22 = nI td) (hI : LnI E td o) (hkn : RKn σ o) {w : Nat} (hw : w ≤ 8) (h0 : tS (tks T n i) = 0) (hf0 : ¬ isFl E w) : ∃ τ, f_X12_line_67 225 (nI w) σ = some τ ∧ Fr Xln σ τ ∧ RLnO σ T n (lin2 (tks T n) w (i + 1) E td o) τ := by
  obtain ⟨ht, htb, hK, -⟩ := id hI
  have hW := h.w
  have h29 : ah_I σ 225 29 = nI 0 := h.2
  have b0 : nC E ≤ 7 := ht.1.1.2
  have b1 : nS E ≤ 10 := ht.1.2.1.2
  have b2 : nP E ≤ 4 := ht.1.2.2.1.2
  have b3' : nR E ≤ 4 := ht.1.2.2.2.1.2
  have q0 : E 227 0 = nI (nC E) := ht.1.1.1
  have q1 : E 227 1 = nI (nS E) := ht.1.2.1.1
  have q2 : E 227 2 = nI (nP E) := ht.1.2.2.1.1
  have q3 : E 227 3 = nI (nR E) := ht.1.2.2.2.1.1
  have td2 : td ||| 2 ^ w < 2 ^ 24 := or_b htb (pw_b (by omega))
  have a3 := h.fr (X := fun x y => x = 225 ∧ y = 22) (τ := ah_wI σ 225 22 (nI (td ||| 2 ^ w))) (Fr.rfl.wI ⟨rfl, rfl⟩) (fun x y z => by omega)
  have aF : Fr (fun a j => a = 225 ∧ (j = 22 ∨ 25 ≤ j ∧ j ≤ 30)) σ (ah_wI σ 225 22 (nI (td ||| 2 ^ w))) := Fr.rfl.wI (by omega)
  have aE : RdE (ah_wI σ 225 22 (nI (td ||| 2 ^ w))) E := hE.fr (X := fun x y => x = 225 ∧ y = 22) (Fr.rfl.wI ⟨rfl, rfl⟩) (fun x y _ _ _ z => by omega)
  have aK : RKn (ah_wI σ 225 22 (nI (td ||| 2 ^ w))) o := hkn.fr (X := fun x y => x = 225 ∧ y = 22) (Fr.rfl.wI ⟨rfl, rfl⟩) (fun x y z => by omega)
  obtain ⟨σ1, c1, c2, c3⟩ := m_nextS a3 (w := tV (tks T n i)) ⟨rfl, h0, rfl⟩
  have c3 : RSt σ1 T n (i + 1, none) := c3
  have cE := aE.f c2
  have cK : RKn σ1 o := aK.fr c2 (fun x y z => by unfold Xfp at z; omega)
  have cF := aF.trans (c2.mono (fun a j z => show a = 225 ∧ (j = 22 ∨ 25 ≤ j ∧ j ≤ 30) by unfold Xfp at z; omega))
  have cW := c3.w
  have c22 : ah_I σ1 225 22 = nI (td ||| 2 ^ w) := (c2.I (by unfold Xfp; omega)).trans rI_eq
  have e0 := m_frs cW cE (k := 0) (by omega)
  have e1 := m_frs cW cE (k := 1) (by omega)
  have e2 := m_frs cW cE (k := 2) (by omega)
  have e3 := m_frs cW cE (k := 3) (by omega)
  rw [q0] at e0
  rw [q1] at e1
  rw [q2] at e2
  rw [q3] at e3
  unfold f_X12_line_67
  simp only [to_bq, l_0, l_1, l_2, l_3, l_4, l_5, l_6, l_7, l_8, l_9, l_10, l_11, l_12, l_13, l_14, l_15, l_16, l_17, l_18, l_19, l_20, l_21, l_22, l_23, l_24, l_25, l_26, l_27, l_28, l_29, l_30, l_31, l_32, l_40, l_41, l_42, l_43, l_44, l_45, l_46, l_47, l_48, l_49, l_50, l_51, l_52, l_53, l_54, l_55, l_56, l_57, l_58, l_59, l_60, l_61, l_62, l_63, l_64, l_72, l_97, l_99, l_100, l_104, l_120, l_122, l_128, l_140, l_255, l_256, l_257, l_258, l_260, l_261, l_262, l_364, l_680, l_700, l_701, l_840, l_999, l_1023, l_1024, l_9999, l_10000, l_1000000, lm]
  simp (disch := first | (with_reducible assumption) | omega | exact ⟨by omega, by omega⟩ | ((with_reducible first | apply Wf.wI | apply Wf.wL | apply Wf.fL | apply Wf.fI | apply Wf.fr); (repeat (with_reducible first | assumption | apply Wf.wI | apply Wf.wL | apply Wf.fL | apply Wf.fI | apply Wf.fr)))) only [ck_225, gI_225, gL_225, pI_225, pZ0_225, pZ1_225, pL_225, gR_225_1, gR_225_3, gR_225_4, gR_225_5, gR_225_6, gR_225_7, gR_225_8, gR_225_9, gR_225_10, gR_225_11, gR_225_12, gR_225_13, gR_225_14, gR_225_15, gR_225_16, gR_225_17, gR_225_18, gR_225_19, gR_225_20, gR_225_21, gR_225_35, gR_225_36, gR_225_38, gR_225_39, gR_225_40, gR_225_41, gR_225_43, gR_225_44, gR_225_45, gR_225_48, gR_225_49, gR_225_50, gR_225_51, gR_225_53, gR_225_54, gR_225_55, gR_225_56, gR_225_58, gR_225_59, gR_225_60, gR_225_61, gR_225_62, gR_225_63, gR_225_66, gR_225_67, bq_n, bd_s, mp_s, rz_0, rz_1, bI_rz, h29, if_true, if_false, ite_true, ite_false, reduceIte, not_true, not_false, and_true, true_and, and_false, false_and, or_true, true_or, or_false, false_or, eq_self, htd]
  rw [z_set (m := td) (c := w) (by omega), c1]
  simp only [bq_n, bd_s, mp_s, rz_0, rz_1, bI_rz]
  have cs : w = 0 ∨ w = 1 ∨ w = 2 ∨ w = 3 ∨ w = 4 ∨ w = 5 ∨ w = 6 ∨ w = 7 ∨ w = 8 := by omega
  rcases cs with rfl | rfl | rfl | rfl | rfl | rfl | rfl | rfl | rfl
  · rw [if_pos rfl, e0]
    simp only [bq_n, bd_s, mp_s, rz_0, rz_1, bI_rz, zadd]
    obtain ⟨τ, t1, t2, t3, t4⟩ := m_corL c3 cE q0 (by omega) _ _ _ rfl rfl rfl
    rw [t1]
    simp only [bq_n, bd_s, mp_s, rz_0, rz_1, bI_rz]
    exact m_lfin (by omega) cF c22 hI (by omega) hf0 cK t2 t3 (fun _ => t4)
  · rw [if_neg (by decide), if_pos rfl]
    obtain ⟨τ, t1, t2, t3, t4⟩ := m_rivL c3 cE ht
    obtain ⟨υ, u1, u2, u3⟩ := m_lfin (w := 1) (by omega) cF c22 hI (by omega) hf0 cK t2 t3 (fun _ => t4)
    exact ⟨υ, (t1 (f_X12_line_315 225)).trans u1, u2, u3⟩
  · rw [if_neg (by decide), if_neg (by decide), if_pos rfl, e1]
    simp only [bq_n, bd_s, mp_s, rz_0, rz_1, bI_rz, zadd]
    obtain ⟨τ, t1, t2, t3, t4⟩ := m_strL c3 cE ht (by omega) _ _ _ _ _ _ _ rfl rfl rfl rfl rfl rfl rfl
    rw [t1]
    simp only [bq_n, bd_s, mp_s, rz_0, rz_1, bI_rz]
    exact m_lfin (w := 2) (by omega) cF c22 hI (by omega) hf0 cK t2 t3 (fun _ => t4)
  · rw [if_neg (by decide), if_neg (by decide), if_neg (by decide), if_pos rfl, e2]
    simp only [bq_n, bd_s, mp_s, rz_0, rz_1, bI_rz, zadd]
    obtain ⟨τ, t1, t2, t3, t4⟩ := m_pipL c3 cE ht (by omega) _ rfl
    rw [t1]
    simp only [bq_n, bd_s, mp_s, rz_0, rz_1, bI_rz]
    exact m_lfin (w := 3) (by omega) cF c22 hI (by omega) hf0 cK t2 t3 (fun _ => t4)
  · rw [if_neg (by decide), if_neg (by decide), if_neg (by decide), if_neg (by decide), if_pos rfl]
    obtain ⟨τ, t1, t2, t3, t4⟩ := m_limL c3 cE (x := 6) (hi := 99) (by omega) (by omega)
    obtain ⟨υ, u1, u2, u3⟩ := m_lfin (w := 4) (by omega) cF c22 hI (by omega) hf0 cK t2 t3 (fun _ => t4)
    exact ⟨υ, (t1 (f_X12_line_315 225)).trans u1, u2, u3⟩
  · rw [if_neg (by decide), if_neg (by decide), if_neg (by decide), if_neg (by decide), if_neg (by decide), if_pos rfl]
    obtain ⟨τ, t1, t2, t3, t4⟩ := m_limL c3 cE (x := 8) (hi := 12) (by omega) (by omega)
    obtain ⟨υ, u1, u2, u3⟩ := m_lfin (w := 5) (by omega) cF c22 hI (by omega) hf0 cK t2 t3 (fun _ => t4)
    exact ⟨υ, (t1 (f_X12_line_315 225)).trans u1, u2, u3⟩
  · rw [if_neg (by decide), if_neg (by decide), if_neg (by decide), if_neg (by decide), if_neg (by decide), if_neg (by decide), if_pos rfl, e3]
    simp only [bq_n, bd_s, mp_s, rz_0, rz_1, bI_rz, zadd]
    obtain ⟨τ, t1, t2, t3, t4⟩ := m_raiL c3 cE ht (by omega) _ rfl
    rw [t1]
    simp only [bq_n, bd_s, mp_s, rz_0, rz_1, bI_rz]
    exact m_lfin (w := 6) (by omega) cF c22 hI (by omega) hf0 cK t2 t3 t4
  · rw [if_neg (by decide), if_neg (by decide), if_neg (by decide), if_neg (by decide), if_neg (by decide), if_neg (by decide), if_neg (by decide), if_pos rfl]
    obtain ⟨τ, t1, t2, t3⟩ := m_lawL c3 cE c22 td2 hK cK
    rw [t1]
    simp only [bq_n, bd_s, mp_s, rz_0, rz_1, bI_rz]
    have eL : lin2 (tks T n) 7 (i + 1) E td o = lawF (sLaw (tks T n) (i + 1) E (td ||| 2 ^ 7) o) := if_pos rfl
    have g1 : Fr Xln σ τ := (cF.mono (fun a j z => Or.inl (Or.inl ⟨z.1, by omega⟩))).trans (t2.mono (fun a j z => Or.inl z))
    rw [eL]
    rcases t3 with ⟨f, j, t3, t4⟩ | ⟨i', E', td', o', t3, t4, t5, t6, t7, t8, t9, g', q', v1, v2, v3, v4, v5, v6, v7⟩
    · rw [t3]
      rcases t4 with t4 | ⟨t4, t5, t6⟩
      · obtain ⟨υ, u1, u2, u3, u4⟩ := m_315 (s := (j, some (f, j))) t4
        exact ⟨υ, u1, g1.trans (u2.mono X23_l), u3⟩
      · obtain ⟨υ, u1, u2, u3, u4⟩ := m_315 t4
        rw [show semi (tks T n) (j, none) = (j, some (1, j)) from if_neg t6] at u3
        subst t5
        exact ⟨υ, u1, g1.trans (u2.mono X23_l), u3⟩
    · rw [t3]
      obtain ⟨υ, u1, u2, u3, u4⟩ := m_315 t4
      rw [show semi (tks T n) (i', none) = (i' + 1, none) from if_pos t5] at u3 u4
      refine ⟨υ, u1, g1.trans (u2.mono X23_l), u3, ?_, ?_, ?_, ?_, ?_⟩
      · exact t6.fr u2 (fun a j h1 h2 h3 q => by unfold X23 Xfp at q; omega)
      · rw [u2.I (by unfold X23 Xfp; omega)]; exact t7
      · subst v5 v7 v1
        exact (hI.w (w := 7) (by omega)).law v4 v2 v3
      · exact t9.fr u2 (fun a j q => by unfold X23 Xfp at q; omega)
      · rw [u4 rfl, t2.I (by unfold Xtx; omega), cF.I (by omega)]
  · rw [if_neg (by decide), if_neg (by decide), if_neg (by decide), if_neg (by decide), if_neg (by decide), if_neg (by decide), if_neg (by decide), if_neg (by decide)]
    obtain ⟨τ, t1, t2, t3, t4⟩ := m_carL c3 cE
    obtain ⟨υ, u1, u2, u3⟩ := m_lfin (w := 8) (by omega) cF c22 hI (by omega) hf0 cK t2 t3 (fun _ => t4)
    exact ⟨υ, (t1 (f_X12_line_315 225)).trans u1, u2, u3⟩
theorem m_l67F {f j : Nat} (h : XpF σ T n f j) (x : Int32) : f_X12_line_67 225 x σ = some σ := by
  have hW := h.1
  unfold f_X12_line_67
  simp only [to_bq, l_0, l_1, l_2, l_3, l_4, l_5, l_6, l_7, l_8, l_9, l_10, l_11, l_12, l_13, l_14, l_15, l_16, l_17, l_18, l_19, l_20, l_21, l_22, l_23, l_24, l_25, l_26, l_27, l_28, l_29, l_30, l_31, l_32, l_40, l_41, l_42, l_43, l_44, l_45, l_46, l_47, l_48, l_49, l_50, l_51, l_52, l_53, l_54, l_55, l_56, l_57, l_58, l_59, l_60, l_61, l_62, l_63, l_64, l_72, l_97, l_99, l_100, l_104, l_120, l_122, l_128, l_140, l_255, l_256, l_257, l_258, l_260, l_261, l_262, l_364, l_680, l_700, l_701, l_840, l_999, l_1023, l_1024, l_9999, l_10000, l_1000000, lm]
  simp (disch := first | (with_reducible assumption) | omega | exact ⟨by omega, by omega⟩ | ((with_reducible first | apply Wf.wI | apply Wf.wL | apply Wf.fL | apply Wf.fI | apply Wf.fr); (repeat (with_reducible first | assumption | apply Wf.wI | apply Wf.wL | apply Wf.fL | apply Wf.fI | apply Wf.fr)))) only [ck_225, gI_225, gL_225, pI_225, pZ0_225, pZ1_225, pL_225, gR_225_1, gR_225_3, gR_225_4, gR_225_5, gR_225_6, gR_225_7, gR_225_8, gR_225_9, gR_225_10, gR_225_11, gR_225_12, gR_225_13, gR_225_14, gR_225_15, gR_225_16, gR_225_17, gR_225_18, gR_225_19, gR_225_20, gR_225_21, gR_225_35, gR_225_36, gR_225_38, gR_225_39, gR_225_40, gR_225_41, gR_225_43, gR_225_44, gR_225_45, gR_225_48, gR_225_49, gR_225_50, gR_225_51, gR_225_53, gR_225_54, gR_225_55, gR_225_56, gR_225_58, gR_225_59, gR_225_60, gR_225_61, gR_225_62, gR_225_63, gR_225_66, gR_225_67, bq_n, bd_s, mp_s, rz_0, rz_1, bI_rz, if_neg h.ne]
theorem m_line (h : RSt σ T n (i, none)) (hE : RdE σ E) (htd : ah_I σ 225 22 = nI td) (hI : LnI E td o) (hkn : RKn σ o) : ∃ τ, f_X12_line 225 σ = some τ ∧ Fr Xln σ τ ∧ RLnO σ T n (lin (tks T n) i E td o) τ := by
  obtain ⟨ht, htb, hK, -⟩ := id hI
  have hW := h.w
  have hv := h.1.v
  have hs := (tks_n (T := T) (n := n) i).2.2
  obtain ⟨k1, k2, k3, k4⟩ := h.1.2
  have wx : ∀ a j, Xwr a j → Xln a j := fun a j z => Or.inl (Xfp_t a j (Xwr_f a j z))
  have bad : ¬ (tS (tks T n i) = 0 ∧ tV (tks T n i) ≤ 8) → ∃ τ, f_X12_line_16 225 σ = some τ ∧ Fr Xln σ τ ∧ RLnO σ T n (lin (tks T n) i E td o) τ := by
    intro z
    obtain ⟨σ1, w1, w2, w3⟩ := m_errS h (f := 1) (by omega) (by omega)
    refine ⟨σ1, ?_, w2.mono wx, ?_⟩
    · unfold f_X12_line_16
      simp only [to_bq, l_0, l_1, l_2, l_3, l_4, l_5, l_6, l_7, l_8, l_9, l_10, l_11, l_12, l_13, l_14, l_15, l_16, l_17, l_18, l_19, l_20, l_21, l_22, l_23, l_24, l_25, l_26, l_27, l_28, l_29, l_30, l_31, l_32, l_40, l_41, l_42, l_43, l_44, l_45, l_46, l_47, l_48, l_49, l_50, l_51, l_52, l_53, l_54, l_55, l_56, l_57, l_58, l_59, l_60, l_61, l_62, l_63, l_64, l_72, l_97, l_99, l_100, l_104, l_120, l_122, l_128, l_140, l_255, l_256, l_257, l_258, l_260, l_261, l_262, l_364, l_680, l_700, l_701, l_840, l_999, l_1023, l_1024, l_9999, l_10000, l_1000000, lm]
      rw [w1]
      simp only [bq_n, bd_s, mp_s, rz_0, rz_1, bI_rz]
    · unfold lin; rw [if_neg z]; exact w3
  unfold f_X12_line f_X12_line_0
  simp only [to_bq, l_0, l_1, l_2, l_3, l_4, l_5, l_6, l_7, l_8, l_9, l_10, l_11, l_12, l_13, l_14, l_15, l_16, l_17, l_18, l_19, l_20, l_21, l_22, l_23, l_24, l_25, l_26, l_27, l_28, l_29, l_30, l_31, l_32, l_40, l_41, l_42, l_43, l_44, l_45, l_46, l_47, l_48, l_49, l_50, l_51, l_52, l_53, l_54, l_55, l_56, l_57, l_58, l_59, l_60, l_61, l_62, l_63, l_64, l_72, l_97, l_99, l_100, l_104, l_120, l_122, l_128, l_140, l_255, l_256, l_257, l_258, l_260, l_261, l_262, l_364, l_680, l_700, l_701, l_840, l_999, l_1023, l_1024, l_9999, l_10000, l_1000000, lm]
  simp (disch := first | (with_reducible assumption) | omega | exact ⟨by omega, by omega⟩ | ((with_reducible first | apply Wf.wI | apply Wf.wL | apply Wf.fL | apply Wf.fI | apply Wf.fr); (repeat (with_reducible first | assumption | apply Wf.wI | apply Wf.wL | apply Wf.fL | apply Wf.fI | apply Wf.fr)))) only [ck_225, gI_225, gL_225, pI_225, pZ0_225, pZ1_225, pL_225, gR_225_1, gR_225_3, gR_225_4, gR_225_5, gR_225_6, gR_225_7, gR_225_8, gR_225_9, gR_225_10, gR_225_11, gR_225_12, gR_225_13, gR_225_14, gR_225_15, gR_225_16, gR_225_17, gR_225_18, gR_225_19, gR_225_20, gR_225_21, gR_225_35, gR_225_36, gR_225_38, gR_225_39, gR_225_40, gR_225_41, gR_225_43, gR_225_44, gR_225_45, gR_225_48, gR_225_49, gR_225_50, gR_225_51, gR_225_53, gR_225_54, gR_225_55, gR_225_56, gR_225_58, gR_225_59, gR_225_60, gR_225_61, gR_225_62, gR_225_63, gR_225_66, gR_225_67, bq_n, bd_s, mp_s, rz_0, rz_1, bI_rz, k3]
  by_cases z0 : tS (tks T n i) = 0
  · have hvb := hv.1 z0
    rw [if_pos (by rw [z0]), k4 (by omega)]
    by_cases z1 : tV (tks T n i) ≤ 8
    · rw [if_pos (by rw [le_nI (by omega) (by omega)]; exact z1), m_isFull hW hE ht z1]
      simp only [bq_n, bd_s, mp_s, rz_0, rz_1, bI_rz]
      by_cases y1 : isFl E (tV (tks T n i))
      · rw [if_neg (by rw [cI_t y1]; decide)]
        obtain ⟨σ1, w1, w2, w3⟩ := m_errS h (f := 2) (by omega) (by omega)
        rw [w1]
        simp only [bq_n, bd_s, mp_s, rz_0, rz_1, bI_rz]
        refine ⟨σ1, m_l67F w3 _, w2.mono wx, ?_⟩
        unfold lin; rw [if_pos ⟨z0, z1⟩, if_pos y1]; exact w3
      · rw [if_pos (cI_f y1), m_isOnce z1]
        simp only [bq_n, bd_s, mp_s, rz_0, rz_1, bI_rz]
        have zb := z_bit1 (m := td) (c := tV (tks T n i)) (by omega) (by omega)
        by_cases y2 : isOn (tV (tks T n i))
        · rw [if_neg (by rw [cI_t y2]; decide)]
          simp (disch := first | (with_reducible assumption) | omega | exact ⟨by omega, by omega⟩ | ((with_reducible first | apply Wf.wI | apply Wf.wL | apply Wf.fL | apply Wf.fI | apply Wf.fr); (repeat (with_reducible first | assumption | apply Wf.wI | apply Wf.wL | apply Wf.fL | apply Wf.fI | apply Wf.fr)))) only [ck_225, gI_225, gL_225, pI_225, pZ0_225, pZ1_225, pL_225, gR_225_1, gR_225_3, gR_225_4, gR_225_5, gR_225_6, gR_225_7, gR_225_8, gR_225_9, gR_225_10, gR_225_11, gR_225_12, gR_225_13, gR_225_14, gR_225_15, gR_225_16, gR_225_17, gR_225_18, gR_225_19, gR_225_20, gR_225_21, gR_225_35, gR_225_36, gR_225_38, gR_225_39, gR_225_40, gR_225_41, gR_225_43, gR_225_44, gR_225_45, gR_225_48, gR_225_49, gR_225_50, gR_225_51, gR_225_53, gR_225_54, gR_225_55, gR_225_56, gR_225_58, gR_225_59, gR_225_60, gR_225_61, gR_225_62, gR_225_63, gR_225_66, gR_225_67, bq_n, bd_s, mp_s, rz_0, rz_1, bI_rz, htd]
          by_cases y3 : td.testBit (tV (tks T n i)) = true
          · rw [if_pos (by rw [zb]; exact y3)]
            obtain ⟨σ1, w1, w2, w3⟩ := m_errS h (f := 3) (by omega) (by omega)
            rw [w1]
            simp only [bq_n, bd_s, mp_s, rz_0, rz_1, bI_rz]
            refine ⟨σ1, m_l67F w3 _, w2.mono wx, ?_⟩
            unfold lin; rw [if_pos ⟨z0, z1⟩, if_neg y1, if_pos ⟨y2, y3⟩]; exact w3
          · rw [if_neg (by rw [zb]; exact y3)]
            have eL : lin (tks T n) i E td o = lin2 (tks T n) (tV (tks T n i)) (i + 1) E td o := by
              unfold lin; rw [if_pos ⟨z0, z1⟩, if_neg y1, if_neg (fun w => y3 w.2)]
            rw [eL]
            exact m_l67 h hE htd hI hkn z1 z0 y1
        · rw [if_pos (cI_f y2)]
          have eL : lin (tks T n) i E td o = lin2 (tks T n) (tV (tks T n i)) (i + 1) E td o := by
            unfold lin; rw [if_pos ⟨z0, z1⟩, if_neg y1, if_neg (fun w => y2 w.1)]
          rw [eL]
          exact m_l67 h hE htd hI hkn z1 z0 y1
    · rw [if_neg (by rw [le_nI (by omega) (by omega)]; exact z1)]
      exact bad (by omega)
  · rw [if_neg (by rw [eq_nI (by omega) (by omega)]; exact z0)]
    exact bad (by omega)
end
