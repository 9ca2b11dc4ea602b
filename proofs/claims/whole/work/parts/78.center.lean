/-! THE CLASS: what comes into a corner -/
theorem vmn_min (f g : Nat → VV) : ∀ n, vmn (fun v => vmin (f v) (g v)) n = vmin (vmn f n) (vmn g n) := by
  intro n
  induction n with
  | zero => rfl
  | succ n ih =>
    show vmin (vmn (fun v => vmin (f v) (g v)) n) (vmin (f n) (g n)) = vmin (vmin (vmn f n) (f n)) (vmin (vmn g n) (g n))
    rw [ih]
    generalize vmn f n = x
    generalize vmn g n = y
    generalize f n = a
    generalize g n = b
    rw [vmin_as, vmin_as, ← vmin_as y a b, vmin_c y a, vmin_as a y b]
section
variable {σ : ah_H} {t : Nat} {D : DD} {st : Nat → Option Nat} {T : Tbl} {g : Nat → Nat} {c w m : Nat} {p : DPr} {Q : Nat → Int}
theorem co_split (hT : ∀ o v b, b < lc D → T o v b = none) (hm : lc D ≤ m) (o : Nat) : coT T w m o = vmin (abT D T w m o) (juT T w m o) := by
  unfold coT abT juT comT cmjT
  have e1 : vmn (fun v => vmn (fun b => T o v b) (m + 1)) (w + 1) = vmin (vmn (fun v => vmn (fun b => T o v b) m) (w + 1)) (vmn (fun v => T o v m) (w + 1)) := vmn_min _ _ _
  rw [e1]
  by_cases q : lc D < m
  · rw [if_pos q, show m - 1 + 1 = m by omega]
  · rw [if_neg q, vmn_none (f := fun v => vmn (fun b => T o v b) m) (w + 1) (fun v _ => vmn_none m (fun b hb => hT o v b (by omega)))]
theorem chs_d (hp : Pq p D st Q) : chsT p T c w m = dS (nx D st) c (coT T w m) (nC D) := by
  unfold chsT
  rw [hp.1.1, hp.1.2]; rfl
theorem chj_d (hp : Pq p D st Q) (hT : ∀ o v b, b < lc D → T o v b = none) (hm : lc D ≤ m) : chjT p T c w m = dD (nx D st) c (coT T w m) (abT D T w m) (juT T w m) (nC D) := by
  rw [(dD_J (nx D st) c (coT T w m) (abT D T w m) (juT T w m) (fun o _ => co_split hT hm o) (nC D)).1]
  unfold chjT
  rw [hp.1.1, hp.1.2]
  refine vmn_cg _ (fun q _ => ?_)
  by_cases z : nx D st q = some c
  · rw [if_pos z, if_pos z]
    unfold ch1T
    rw [hp.1.1, hp.1.2]; rfl
  · rw [if_neg z, if_neg z]
theorem c_joinBranches (hW : Wf σ) (h7 : nC D ≤ 7) (hp : Pq p D st Q) (hT : ∀ o v b, b < lc D → T o v b = none) (hg : GaR σ D st c (nC D)) (hk0 : CKid σ D st T c) (hb : CBd D st T g c) (hm4 : mc D ≤ 12) (hw : w < nP D) (hw4 : nP D ≤ 4) (hm1 : lc D ≤ m) (hm2 : m ≤ mc D) : ∃ τ, f_X0_joinBranches 163 (nI (w * 13 + m)) (bI (lc D < m)) σ = some τ ∧ Fr (Xjb (w * 13 + m)) σ τ ∧ Rp NV (ah_L τ 186 (w * 13 + m)) (ah_L τ 186 (52 + (w * 13 + m))) (chsT p T c w m) ∧ Rp NV (ah_L τ 185 (w * 13 + m)) (ah_L τ 185 (52 + (w * 13 + m))) (chjT p T c w m) := by
  have hNV : NV = 100000000000000000 := rfl
  have hat : w * 13 + m < 52 := by omega
  obtain ⟨z3, z5, z11, z13, e1, e2, e3⟩ := c_jb22 hW h7 hg hk0 hb hm4 hw hw4 hm1 hm2 (nC D) 0 5000 (iL 0) (iL 0) (iL 0) (iL 0) (iL 100000000000000000) (iL 0) (by omega) (by omega) ⟨rfl, rfl, by show 0 < _; omega, by show 0 < _; omega⟩ ⟨rfl, rfl, by show 0 < _; omega, by show 0 < _; omega⟩ ⟨100000000000000000, rfl, by omega, by rw [hNV]; omega⟩
  have hl : ((nC D + 1 : Nat) : Int) * NV < 9223372036854775808 := by rw [hNV]; omega
  have c2 := e2.cap hl
  have c3 := e3.cap hl
  refine ⟨ah_wL (ah_wL (ah_wL (ah_wL σ 186 (w * 13 + m) (op_minl (iL 100000000000000000) z3)) 186 (52 + (w * 13 + m)) z5) 185 (w * 13 + m) (op_minl (iL 100000000000000000) z11)) 185 (52 + (w * 13 + m)) z13, ?_, ?_, ?_, ?_⟩
  · unfold f_X0_joinBranches f_X0_joinBranches_0
    rw [ck_163 hW]
    refine Eq.trans ?_ (Eq.trans e1 ?_)
    · rfl
    · unfold f_X0_joinBranches_191
      simp only [to_bq, l_0, l_1, l_2, l_3, l_4, l_5, l_6, l_7, l_8, l_9, l_10, l_11, l_12, l_13, l_14, l_15, l_16, l_17, l_18, l_19, l_20, l_21, l_22, l_23, l_24, l_25, l_26, l_27, l_28, l_29, l_30, l_31, l_32, l_40, l_41, l_42, l_43, l_44, l_45, l_46, l_47, l_48, l_49, l_50, l_51, l_52, l_53, l_54, l_55, l_56, l_57, l_58, l_59, l_60, l_61, l_62, l_63, l_64, l_72, l_97, l_99, l_100, l_104, l_120, l_122, l_128, l_140, l_255, l_256, l_257, l_258, l_260, l_261, l_262, l_364, l_680, l_700, l_701, l_840, l_999, l_1023, l_1024, l_9999, l_10000, l_1000000, lm]
      rw [q_100000000000000000]
      simp (disch := first | (with_reducible assumption) | omega | exact ⟨by omega, by omega⟩ | ((with_reducible first | apply Wf.wI | apply Wf.wL | apply Wf.fL | apply Wf.fI | apply Wf.fr); (repeat (with_reducible first | assumption | apply Wf.wI | apply Wf.wL | apply Wf.fL | apply Wf.fI | apply Wf.fr)))) only [ck_163, gI_163, gL_163, pI_163, pZ0_163, pZ1_163, pL_163, gR_163_1, gR_163_2, gR_163_3, gR_163_5, gR_163_6, gR_163_7, gR_163_9, gR_163_10, gR_163_11, gR_163_12, gR_163_13, gR_163_14, gR_163_15, pR_163_17, gR_163_17, aL_186, sL_186, len_186, aL_185, sL_185, len_185, bq_n, bd_s, mp_s, rz_0, rz_1, bI_rz, zadd, zmul, zsub, le_nI, lt_nI, eq_nI, neg_nI, gen_nI, neg_lt, neg_le, neg_lt', neg_le', nI_lt0]
  · exact ((((Fr.rfl (X := Xjb (w * 13 + m)) (σ := σ)).wL ⟨Or.inr rfl, Or.inl rfl⟩).wL ⟨Or.inr rfl, Or.inr rfl⟩).wL ⟨Or.inl rfl, Or.inl rfl⟩).wL ⟨Or.inl rfl, Or.inr rfl⟩
  · rw [rL_ne (by omega), rL_ne (by omega), rL_ne (by omega), rL_eq, rL_ne (by omega), rL_ne (by omega), rL_eq, chs_d hp]
    exact c2
  · rw [rL_ne (by omega), rL_eq, rL_eq, chj_d hp hT hm1]
    exact c3
/-- what enter finds -/
def JbR (σ : ah_H) (D : DD) (p : DPr) (T : Tbl) (c w : Nat) : Prop := ∀ m, lc D ≤ m → m ≤ mc D → Rp NV (ah_L σ 186 (w * 13 + m)) (ah_L σ 186 (52 + (w * 13 + m))) (chsT p T c w m) ∧ Rp NV (ah_L σ 185 (w * 13 + m)) (ah_L σ 185 (52 + (w * 13 + m))) (chjT p T c w m)
def Xen (a j : Nat) : Prop := a = 163 ∧ (j = 18 ∨ j = 19)
theorem add_0 (k : Int64) : k + iL 0 = k := by
  rw [iL_of k, iadd, Int.add_zero]
theorem kd_0 (hp : Pq p D st Q) (h0 : cnt (kd (nx D st) c) (nC D) = 0) (w m : Nat) : chjT p T c w m = none := by
  unfold chjT
  refine vmn_none _ (fun q hq => ?_)
  rw [if_neg]
  intro z
  rw [hp.1.1] at z
  rw [hp.1.2] at hq
  have h1 := cnt_kt z
  have h2 := cnt_up (kd (nx D st) c) (show q + 1 ≤ nC D by omega)
  omega
theorem c_en57 (h0 : TR σ t D) (hp0 : ah_R σ 163 17 = some t) (hp : Pq p D st Q) (hj : JbR σ D p T c w) (hw : w < nP D) {a : Nat} (ha : lc D ≤ a) (ha2 : a ≤ mc D) (htd : told D 2) (hq : 0 ≤ Q c ∧ Q c ≤ 1000000000000) (hl : ∀ l, 1 ≤ l → l < 13 → ah_L σ 187 l = iL (pumpv D l (Q c))) (hbd : ∀ m, lc D ≤ m → m ≤ mc D → vb (chjT p T c w m) 90000000000000000) : ∀ i m fu τ, m + i = mc D + 1 → i < fu → a < m → Fr Xen σ τ → Rp (2 * NV) (ah_L τ 163 18) (ah_L τ 163 19) (vmin (chsT p T c w a) (vmn (behF p T c w a) m)) → ∃ τ', f_X0_enter_57 fu 163 (nI w) (nI a) (nI m) τ = some τ' ∧ Fr Xen σ τ' ∧ Rp (2 * NV) (ah_L τ' 163 18) (ah_L τ' 163 19) (behT p T c w a) := by
  have hNV : NV = 100000000000000000 := rfl
  have htn := h0.tn
  have b4 := h0.t.qp4
  have b12 := h0.t.qmc12
  have eF : behT p T c w a = vmin (chsT p T c w a) (vmn (behF p T c w a) (mc D + 1)) := by
    unfold behT; rw [hp.2.1]; rfl
  intro i
  induction i with
  | zero =>
    intro m fu τ hm hf ham gf hr
    obtain ⟨fu, rfl⟩ : ∃ q, fu = q + 1 := ⟨fu - 1, by omega⟩
    have h : TR τ t D := h0.fr gf (fun a j h1 h2 => by unfold Xen; rcases htn with z | z <;> omega)
    have hpp : ah_R τ 163 17 = some t := by rw [gf.R (Or.inr (by unfold Xen; omega))]; exact hp0
    have hW := h.w
    refine ⟨τ, ?_, gf, by rw [eF, ← show m = mc D + 1 by omega]; exact hr⟩
    show f_X0_enter_57_b _ _ _ _ _ _ = _
    unfold f_X0_enter_57_b
    simp only [to_bq, l_0, l_1, l_2, l_3, l_4, l_5, l_6, l_7, l_8, l_9, l_10, l_11, l_12, l_13, l_14, l_15, l_16, l_17, l_18, l_19, l_20, l_21, l_22, l_23, l_24, l_25, l_26, l_27, l_28, l_29, l_30, l_31, l_32, l_40, l_41, l_42, l_43, l_44, l_45, l_46, l_47, l_48, l_49, l_50, l_51, l_52, l_53, l_54, l_55, l_56, l_57, l_58, l_59, l_60, l_61, l_62, l_63, l_64, l_72, l_97, l_99, l_100, l_104, l_120, l_122, l_128, l_140, l_255, l_256, l_257, l_258, l_260, l_261, l_262, l_364, l_680, l_700, l_701, l_840, l_999, l_1023, l_1024, l_9999, l_10000, l_1000000, lm]
    simp (disch := first | (with_reducible assumption) | omega | exact ⟨by omega, by omega⟩ | ((with_reducible first | apply Wf.wI | apply Wf.wL | apply Wf.fL | apply Wf.fI | apply Wf.fr); (repeat (with_reducible first | assumption | apply Wf.wI | apply Wf.wL | apply Wf.fL | apply Wf.fI | apply Wf.fr)))) only [ck_163, gI_163, gL_163, pI_163, pZ0_163, pZ1_163, pL_163, gR_163_1, gR_163_2, gR_163_3, gR_163_5, gR_163_6, gR_163_7, gR_163_9, gR_163_10, gR_163_11, gR_163_12, gR_163_13, gR_163_14, gR_163_15, pR_163_17, gR_163_17, ck_t, gI_t, gL_t, pI_t, pZ0_t, pZ1_t, pL_t, ck_w, gI_w, gL_w, pI_w, pZ0_w, pZ1_w, pL_w, gR_t_1, gR_t_5, gR_t_7, gR_t_9, gR_t_10, gR_t_11, gR_t_12, gR_t_15, gR_w_2, gR_w_3, gR_w_4, gR_w_5, gR_w_6, gR_w_7, aR_crow, aR_srow, aR_prow, aR_rrow, aI_crow, sI_crow, len_crow, aI_srow, sI_srow, len_srow, aI_prow, sI_prow, len_prow, aI_rrow, sI_rrow, len_rrow, aI_t25, sI_t25, len_t25, aI_t31, sI_t31, len_t31, aI_t32, sI_t32, len_t32, aI_t34, sI_t34, len_t34, aI_t35, sI_t35, len_t35, aI_t36, sI_t36, len_t36, aI_t37, sI_t37, len_t37, aL_t38, sL_t38, len_t38, aL_t39, sL_t39, len_t39, bq_n, bd_s, mp_s, rz_0, rz_1, bI_rz, zadd, zmul, zsub, le_nI, lt_nI, eq_nI, neg_nI, gen_nI, neg_lt, neg_le, neg_lt', neg_le', nI_lt0, if_true, if_false, ite_true, ite_false, reduceIte, not_true, not_false, and_true, true_and, and_false, false_and, or_true, true_or, or_false, false_or, eq_self, hpp, tr_mc h, show (mc D < m) = True from eq_true (by omega)]
  | succ i ih =>
    intro m fu τ hm hf ham gf hr
    obtain ⟨fu, rfl⟩ : ∃ q, fu = q + 1 := ⟨fu - 1, by omega⟩
    have h : TR τ t D := h0.fr gf (fun a j h1 h2 => by unfold Xen; rcases htn with z | z <;> omega)
    have hpp : ah_R τ 163 17 = some t := by rw [gf.R (Or.inr (by unfold Xen; omega))]; exact hp0
    have hW := h.w
    have hat : w * 13 + m < 52 := by omega
    have e185 := (hj m (by omega) (by omega)).2
    have l1 : ah_L τ 185 (w * 13 + m) = ah_L σ 185 (w * 13 + m) := gf.L (by unfold Xen; omega)
    have l2 : ah_L τ 185 (52 + (w * 13 + m)) = ah_L σ 185 (52 + (w * 13 + m)) := gf.L (by unfold Xen; omega)
    have l3 : ah_L τ 187 (m - a) = iL (pumpv D (m - a) (Q c)) := by rw [gf.L (by unfold Xen; omega)]; exact hl (m - a) (by omega) (by omega)
    have pb := pumpv_b h0.t (l := m - a) (f := Q c) (by omega) hq
    have ed : dpp p c (m - a) = some ((pumpv D (m - a) (Q c)).toNat, 0) := by rw [hp.2.2]; unfold pmv; rw [if_pos htd]
    have rd : Rp NV (iL (pumpv D (m - a) (Q c))) (iL 0) (dpp p c (m - a)) := by
      rw [ed]
      refine ⟨?_, rfl, ?_, by show 0 < _; omega⟩
      · show _ = iL (((pumpv D (m - a) (Q c)).toNat : Nat) : Int)
        rw [Int.toNat_of_nonneg pb.1]
      · show (pumpv D (m - a) (Q c)).toNat < _
        omega
    have eb : vadd (chjT p T c w m) (dpp p c (m - a)) = behF p T c w a m := by unfold behF; rw [if_pos ham, vadd_c]
    have ra := Rp.add e185 rd (by rw [hNV]; omega) (by rw [hNV]; omega) (fun x hx => by
      obtain ⟨u, v, u1, v1, x1⟩ := vadd_some hx
      rw [ed] at v1
      cases v1
      have := hbd m (by omega) (by omega) u u1
      rw [u1] at e185
      have e4 := e185.2.2.2
      rw [x1]
      show u.1 + (pumpv D (m - a) (Q c)).toNat < _ ∧ u.2 + 0 < _
      omega)
    rw [eb, add_0, show NV + NV = 2 * NV by omega] at ra
    obtain ⟨P, p1, p2, p3⟩ := c_less (σ := τ) ra hr (by rw [hNV]; omega)
    have en : vmin (vmin (chsT p T c w a) (vmn (behF p T c w a) m)) (behF p T c w a m) = vmin (chsT p T c w a) (vmn (behF p T c w a) (m + 1)) := vmin_as _ _ _
    rw [en] at p2 p3
    show ∃ τ', f_X0_enter_57_b (f_X0_enter_57 fu) 163 (nI w) (nI a) (nI m) τ = _ ∧ _
    by_cases qP : P
    · rw [cI_t qP] at p1
      have he : f_X0_enter_57_b (f_X0_enter_57 fu) 163 (nI w) (nI a) (nI m) τ = f_X0_enter_57 fu 163 (nI w) (nI a) (nI (m + 1)) (ah_wL (ah_wL τ 163 18 (ah_L σ 185 (w * 13 + m) + iL (pumpv D (m - a) (Q c)))) 163 19 (ah_L σ 185 (52 + (w * 13 + m)))) := by
        unfold f_X0_enter_57_b f_X0_enter_145
        simp only [to_bq, l_0, l_1, l_2, l_3, l_4, l_5, l_6, l_7, l_8, l_9, l_10, l_11, l_12, l_13, l_14, l_15, l_16, l_17, l_18, l_19, l_20, l_21, l_22, l_23, l_24, l_25, l_26, l_27, l_28, l_29, l_30, l_31, l_32, l_40, l_41, l_42, l_43, l_44, l_45, l_46, l_47, l_48, l_49, l_50, l_51, l_52, l_53, l_54, l_55, l_56, l_57, l_58, l_59, l_60, l_61, l_62, l_63, l_64, l_72, l_97, l_99, l_100, l_104, l_120, l_122, l_128, l_140, l_255, l_256, l_257, l_258, l_260, l_261, l_262, l_364, l_680, l_700, l_701, l_840, l_999, l_1023, l_1024, l_9999, l_10000, l_1000000, lm]
        simp (disch := first | (with_reducible assumption) | omega | exact ⟨by omega, by omega⟩ | ((with_reducible first | apply Wf.wI | apply Wf.wL | apply Wf.fL | apply Wf.fI | apply Wf.fr); (repeat (with_reducible first | assumption | apply Wf.wI | apply Wf.wL | apply Wf.fL | apply Wf.fI | apply Wf.fr)))) only [ck_163, gI_163, gL_163, pI_163, pZ0_163, pZ1_163, pL_163, gR_163_1, gR_163_2, gR_163_3, gR_163_5, gR_163_6, gR_163_7, gR_163_9, gR_163_10, gR_163_11, gR_163_12, gR_163_13, gR_163_14, gR_163_15, pR_163_17, gR_163_17, ck_t, gI_t, gL_t, pI_t, pZ0_t, pZ1_t, pL_t, ck_w, gI_w, gL_w, pI_w, pZ0_w, pZ1_w, pL_w, gR_t_1, gR_t_5, gR_t_7, gR_t_9, gR_t_10, gR_t_11, gR_t_12, gR_t_15, gR_w_2, gR_w_3, gR_w_4, gR_w_5, gR_w_6, gR_w_7, aR_crow, aR_srow, aR_prow, aR_rrow, aI_crow, sI_crow, len_crow, aI_srow, sI_srow, len_srow, aI_prow, sI_prow, len_prow, aI_rrow, sI_rrow, len_rrow, aI_t25, sI_t25, len_t25, aI_t31, sI_t31, len_t31, aI_t32, sI_t32, len_t32, aI_t34, sI_t34, len_t34, aI_t35, sI_t35, len_t35, aI_t36, sI_t36, len_t36, aI_t37, sI_t37, len_t37, aL_t38, sL_t38, len_t38, aL_t39, sL_t39, len_t39, bq_n, bd_s, mp_s, rz_0, rz_1, bI_rz, zadd, zmul, zsub, le_nI, lt_nI, eq_nI, neg_nI, gen_nI, neg_lt, neg_le, neg_lt', neg_le', nI_lt0, if_true, if_false, ite_true, ite_false, reduceIte, not_true, not_false, and_true, true_and, and_false, false_and, or_true, true_or, or_false, false_or, eq_self, Nat.reduceEqDiff, Nat.reduceAdd, Nat.reduceMul, Nat.reduceSub, Nat.reduceLT, Nat.reduceLeDiff, Nat.add_sub_cancel, Nat.zero_add, Nat.add_zero, Nat.mul_zero, Nat.zero_mul, hpp, tr_mc h, show (mc D < m) = False from eq_false (by omega), aL_185, sL_185, len_185, aL_187, sL_187, len_187, l1, l2, l3, p1, rI_ne, rI_eq, rL_ne, rL_eq, ah_I_wL, ah_L_wI, ah_R_wI, ah_R_wL, ah_I_wR, ah_L_wR, rR_ne, rR_eq]
      rw [he]
      refine ih (m + 1) fu _ (by omega) (by omega) (by omega) ((gf.wL ⟨rfl, Or.inl rfl⟩).wL ⟨rfl, Or.inr rfl⟩) ?_
      rw [rL_ne (by omega), rL_eq, rL_eq]
      exact p2 qP
    · rw [cI_f qP] at p1
      have he : f_X0_enter_57_b (f_X0_enter_57 fu) 163 (nI w) (nI a) (nI m) τ = f_X0_enter_57 fu 163 (nI w) (nI a) (nI (m + 1)) τ := by
        unfold f_X0_enter_57_b f_X0_enter_145
        simp only [to_bq, l_0, l_1, l_2, l_3, l_4, l_5, l_6, l_7, l_8, l_9, l_10, l_11, l_12, l_13, l_14, l_15, l_16, l_17, l_18, l_19, l_20, l_21, l_22, l_23, l_24, l_25, l_26, l_27, l_28, l_29, l_30, l_31, l_32, l_40, l_41, l_42, l_43, l_44, l_45, l_46, l_47, l_48, l_49, l_50, l_51, l_52, l_53, l_54, l_55, l_56, l_57, l_58, l_59, l_60, l_61, l_62, l_63, l_64, l_72, l_97, l_99, l_100, l_104, l_120, l_122, l_128, l_140, l_255, l_256, l_257, l_258, l_260, l_261, l_262, l_364, l_680, l_700, l_701, l_840, l_999, l_1023, l_1024, l_9999, l_10000, l_1000000, lm]
        simp (disch := first | (with_reducible assumption) | omega | exact ⟨by omega, by omega⟩ | ((with_reducible first | apply Wf.wI | apply Wf.wL | apply Wf.fL | apply Wf.fI | apply Wf.fr); (repeat (with_reducible first | assumption | apply Wf.wI | apply Wf.wL | apply Wf.fL | apply Wf.fI | apply Wf.fr)))) only [ck_163, gI_163, gL_163, pI_163, pZ0_163, pZ1_163, pL_163, gR_163_1, gR_163_2, gR_163_3, gR_163_5, gR_163_6, gR_163_7, gR_163_9, gR_163_10, gR_163_11, gR_163_12, gR_163_13, gR_163_14, gR_163_15, pR_163_17, gR_163_17, ck_t, gI_t, gL_t, pI_t, pZ0_t, pZ1_t, pL_t, ck_w, gI_w, gL_w, pI_w, pZ0_w, pZ1_w, pL_w, gR_t_1, gR_t_5, gR_t_7, gR_t_9, gR_t_10, gR_t_11, gR_t_12, gR_t_15, gR_w_2, gR_w_3, gR_w_4, gR_w_5, gR_w_6, gR_w_7, aR_crow, aR_srow, aR_prow, aR_rrow, aI_crow, sI_crow, len_crow, aI_srow, sI_srow, len_srow, aI_prow, sI_prow, len_prow, aI_rrow, sI_rrow, len_rrow, aI_t25, sI_t25, len_t25, aI_t31, sI_t31, len_t31, aI_t32, sI_t32, len_t32, aI_t34, sI_t34, len_t34, aI_t35, sI_t35, len_t35, aI_t36, sI_t36, len_t36, aI_t37, sI_t37, len_t37, aL_t38, sL_t38, len_t38, aL_t39, sL_t39, len_t39, bq_n, bd_s, mp_s, rz_0, rz_1, bI_rz, zadd, zmul, zsub, le_nI, lt_nI, eq_nI, neg_nI, gen_nI, neg_lt, neg_le, neg_lt', neg_le', nI_lt0, if_true, if_false, ite_true, ite_false, reduceIte, not_true, not_false, and_true, true_and, and_false, false_and, or_true, true_or, or_false, false_or, eq_self, Nat.reduceEqDiff, Nat.reduceAdd, Nat.reduceMul, Nat.reduceSub, Nat.reduceLT, Nat.reduceLeDiff, Nat.add_sub_cancel, Nat.zero_add, Nat.add_zero, Nat.mul_zero, Nat.zero_mul, hpp, tr_mc h, show (mc D < m) = False from eq_false (by omega), aL_185, sL_185, len_185, aL_187, sL_187, len_187, l1, l2, l3, p1]
      rw [he]
      exact ih (m + 1) fu τ (by omega) (by omega) (by omega) gf (p3 qP)
theorem c_enter (h : TR σ t D) (hp0 : ah_R σ 163 17 = some t) (hp : Pq p D st Q) (hg : GaR σ D st c (nC D)) (hj : JbR σ D p T c w) (hw : w < nP D) {a : Nat} (ha : lc D ≤ a) (ha2 : a ≤ mc D) (hq : 0 ≤ Q c ∧ Q c ≤ 1000000000000) (hl : cnt (kd (nx D st) c) (nC D) ≠ 0 → ∀ l, 1 ≤ l → l < 13 → ah_L σ 187 l = iL (pumpv D l (Q c))) (hbd : ∀ m, lc D ≤ m → m ≤ mc D → vb (chjT p T c w m) 90000000000000000) : ∃ τ, f_X0_enter 163 (nI w) (nI a) σ = some τ ∧ Fr Xen σ τ ∧ Rp (2 * NV) (ah_L τ 163 18) (ah_L τ 163 19) (behT p T c w a) := by
  have hNV : NV = 100000000000000000 := rfl
  have htn := h.tn
  have hW := h.w
  have b4 := h.t.qp4
  have b7 := h.t.qc7
  have b12 := h.t.qmc12
  have hcl := cnt_le (kd (nx D st) c) (nC D)
  have hat : w * 13 + a < 52 := by omega
  have f1 : Fr Xen σ (ah_wL (ah_wL σ 163 18 (ah_L σ 186 (w * 13 + a))) 163 19 (ah_L σ 186 (52 + (w * 13 + a)))) := ((Fr.rfl (X := Xen) (σ := σ)).wL ⟨rfl, Or.inl rfl⟩).wL ⟨rfl, Or.inr rfl⟩
  have r0 : Rp (2 * NV) (ah_L (ah_wL (ah_wL σ 163 18 (ah_L σ 186 (w * 13 + a))) 163 19 (ah_L σ 186 (52 + (w * 13 + a)))) 163 18) (ah_L (ah_wL (ah_wL σ 163 18 (ah_L σ 186 (w * 13 + a))) 163 19 (ah_L σ 186 (52 + (w * 13 + a)))) 163 19) (chsT p T c w a) := by
    rw [rL_ne (by omega), rL_eq, rL_eq]
    exact (hj a ha ha2).1.mono (by rw [hNV]; omega)
  have hτ : TR (ah_wL (ah_wL σ 163 18 (ah_L σ 186 (w * 13 + a))) 163 19 (ah_L σ 186 (52 + (w * 13 + a)))) t D := h.fr f1 (fun a j h1 h2 => by unfold Xen; rcases htn with z | z <;> omega)
  have eF : behT p T c w a = vmin (chsT p T c w a) (vmn (behF p T c w a) (mc D + 1)) := by
    unfold behT; rw [hp.2.1]; rfl
  have hno : (∀ m, behF p T c w a m = none) → behT p T c w a = chsT p T c w a := fun z => by
    rw [eF, vmn_none _ (fun i _ => z i), vmin_n]
  have hpp : ah_R (ah_wL (ah_wL σ 163 18 (ah_L σ 186 (w * 13 + a))) 163 19 (ah_L σ 186 (52 + (w * 13 + a)))) 163 17 = some t := by rw [ah_R_wL, ah_R_wL]; exact hp0
  unfold f_X0_enter f_X0_enter_0
  simp only [to_bq, l_0, l_1, l_2, l_3, l_4, l_5, l_6, l_7, l_8, l_9, l_10, l_11, l_12, l_13, l_14, l_15, l_16, l_17, l_18, l_19, l_20, l_21, l_22, l_23, l_24, l_25, l_26, l_27, l_28, l_29, l_30, l_31, l_32, l_40, l_41, l_42, l_43, l_44, l_45, l_46, l_47, l_48, l_49, l_50, l_51, l_52, l_53, l_54, l_55, l_56, l_57, l_58, l_59, l_60, l_61, l_62, l_63, l_64, l_72, l_97, l_99, l_100, l_104, l_120, l_122, l_128, l_140, l_255, l_256, l_257, l_258, l_260, l_261, l_262, l_364, l_680, l_700, l_701, l_840, l_999, l_1023, l_1024, l_9999, l_10000, l_1000000, lm]
  simp (disch := first | (with_reducible assumption) | omega | exact ⟨by omega, by omega⟩ | ((with_reducible first | apply Wf.wI | apply Wf.wL | apply Wf.fL | apply Wf.fI | apply Wf.fr); (repeat (with_reducible first | assumption | apply Wf.wI | apply Wf.wL | apply Wf.fL | apply Wf.fI | apply Wf.fr)))) only [ck_163, gI_163, gL_163, pI_163, pZ0_163, pZ1_163, pL_163, gR_163_1, gR_163_2, gR_163_3, gR_163_5, gR_163_6, gR_163_7, gR_163_9, gR_163_10, gR_163_11, gR_163_12, gR_163_13, gR_163_14, gR_163_15, pR_163_17, gR_163_17, ck_t, gI_t, gL_t, pI_t, pZ0_t, pZ1_t, pL_t, ck_w, gI_w, gL_w, pI_w, pZ0_w, pZ1_w, pL_w, gR_t_1, gR_t_5, gR_t_7, gR_t_9, gR_t_10, gR_t_11, gR_t_12, gR_t_15, gR_w_2, gR_w_3, gR_w_4, gR_w_5, gR_w_6, gR_w_7, aR_crow, aR_srow, aR_prow, aR_rrow, aI_crow, sI_crow, len_crow, aI_srow, sI_srow, len_srow, aI_prow, sI_prow, len_prow, aI_rrow, sI_rrow, len_rrow, aI_t25, sI_t25, len_t25, aI_t31, sI_t31, len_t31, aI_t32, sI_t32, len_t32, aI_t34, sI_t34, len_t34, aI_t35, sI_t35, len_t35, aI_t36, sI_t36, len_t36, aI_t37, sI_t37, len_t37, aL_t38, sL_t38, len_t38, aL_t39, sL_t39, len_t39, bq_n, bd_s, mp_s, rz_0, rz_1, bI_rz, zadd, zmul, zsub, le_nI, lt_nI, eq_nI, neg_nI, gen_nI, neg_lt, neg_le, neg_lt', neg_le', nI_lt0, aL_186, sL_186, len_186, rI_ne, rI_eq, rL_ne, rL_eq, ah_I_wL, ah_L_wI, ah_R_wI, ah_R_wL, ah_I_wR, ah_L_wR, rR_ne, rR_eq, hg.1, hp0]
  by_cases q0 : cnt (kd (nx D st) c) (nC D) = 0
  · rw [if_pos q0]
    refine ⟨_, rfl, f1, ?_⟩
    rw [hno (fun m => by unfold behF; by_cases z : a < m; · { rw [if_pos z, kd_0 hp q0, vadd_n] }; · { rw [if_neg z] })]
    exact r0
  rw [if_neg q0, c_isTold hτ (show 2 < 3 by omega), bq_n]
  by_cases q1 : told D 2
  · rw [show (bI (told D 2), ah_wL (ah_wL σ 163 18 (ah_L σ 186 (w * 13 + a))) 163 19 (ah_L σ 186 (52 + (w * 13 + a)))).1 = nI 1 from if_pos q1, if_neg (by decide)]
    have rr : Rp (2 * NV) (ah_L (ah_wL (ah_wL σ 163 18 (ah_L σ 186 (w * 13 + a))) 163 19 (ah_L σ 186 (52 + (w * 13 + a)))) 163 18) (ah_L (ah_wL (ah_wL σ 163 18 (ah_L σ 186 (w * 13 + a))) 163 19 (ah_L σ 186 (52 + (w * 13 + a)))) 163 19) (vmin (chsT p T c w a) (vmn (behF p T c w a) (a + 1))) := by
      rw [vmn_none (f := behF p T c w a) (a + 1) (fun j hj => by unfold behF; rw [if_neg (by omega)]), vmin_n]
      exact r0
    obtain ⟨τ', k1, k2, k3⟩ := c_en57 (σ := σ) h hp0 hp hj hw ha ha2 q1 hq (hl q0) hbd (mc D - a) (a + 1) 5000 _ (by omega) (by omega) (by omega) f1 rr
    refine ⟨τ', ?_, k2, k3⟩
    rw [← k1, zadd]
  · rw [show (bI (told D 2), ah_wL (ah_wL σ 163 18 (ah_L σ 186 (w * 13 + a))) 163 19 (ah_L σ 186 (52 + (w * 13 + a)))).1 = nI 0 from if_neg q1, if_pos rfl]
    refine ⟨_, rfl, f1, ?_⟩
    rw [hno (fun m => by
      unfold behF
      by_cases z : a < m
      · rw [if_pos z, hp.2.2, show pmv D Q c (m - a) = none by unfold pmv; rw [if_neg q1]]; rfl
      · rw [if_neg z])]
    exact r0
end
