/-! THE REFERENCE: behind a corner -/
def fallv (D : DD) (c s a b : Nat) : Int := (hgt D c : Int) - a - hgt D (oth D s c) + b
def fx (F : Int32) (v : Nat) : Prop := F = mI 1 ∨ F = nI v
def pmv (D : DD) (Q : Nat → Int) (c k : Nat) : VV := if told D 2 then some ((pumpv D k (Q c)).toNat, 0) else none
section
variable {σ : ah_H} {D : DD} {T : Tbl} {w a e c : Nat} {st : Nat → Option Nat} {p : DPr} {Q : Nat → Int}
def Pq (p : DPr) (D : DD) (st : Nat → Option Nat) (Q : Nat → Int) : Prop := (dpx p = nx D st ∧ dpn p = nC D) ∧ dph p = mc D ∧ dpp p = pmv D Q
def Qr (σ : ah_H) (Q : Nat → Int) (c : Nat) : Prop := ah_L σ 265 c = iL (Q c) ∧ 0 ≤ Q c ∧ Q c ≤ 1000000000000
theorem pmv_b (ht : MT D) (hq : 0 ≤ Q c ∧ Q c ≤ 1000000000000) {k : Nat} (hk : k ≤ 100) : vb (pmv D Q c k) 1000000000000 := by
  unfold pmv
  by_cases q : told D 2
  · rw [if_pos q]
    intro x hx
    cases hx
    have := pumpv_b ht hk hq
    show (pumpv D k (Q c)).toNat ≤ _
    omega
  · rw [if_neg q]; exact vb_none _
def behF (p : DPr) (T : Tbl) (c w a m : Nat) : VV := if a < m then vadd (dpp p c (m - a)) (chjT p T c w m) else none
theorem behF_b (ht : MT D) (hp : Pq p D st Q) (hr : Kid σ D st T c) (hq : 0 ≤ Q c ∧ Q c ≤ 1000000000000) (hw : w < 4) {m : Nat} (hm : m < 13) : vb (behF p T c w a m) 9000000000000000 := by
  unfold behF
  by_cases q : a < m
  · rw [if_pos q, hp.2.2]
    have h1 := chj_b hp.1 ht.qc7 hr hw hm (nC D) (Nat.le_refl _)
    refine vb_mono (vb_add (pmv_b ht hq (by omega)) (show vb (chjT p T c w m) 8000000000000000 from ?_)) (by omega)
    unfold chjT
    rw [hp.1.2]; exact h1
  · rw [if_neg q]; exact vb_none _
theorem chs_b (ht : MT D) (hp : Pq p D st Q) (hr : Kid σ D st T c) (hw : w < 4) {m : Nat} (hm : m < 13) : vb (chsT p T c w m) 9000000000000000 := by
  have := ht.qc7
  have h1 := vb_smk (kid_b hp.1 hr hw hm) (nC D) (Nat.le_refl _)
  refine vb_mono (show vb (chsT p T c w m) (nC D * 1000000000000000) from ?_) (by omega)
  unfold chsT
  rw [hp.1.2]
  exact h1
theorem m_beh15 (h0 : MInv σ D) (hs0 : StR σ D e st) (hp : Pq p D st Q) (hc : c < nC D) (hr0 : Kid σ D st T c) (hq0 : Qr σ Q c) (hw : w < 4) (ha : a < 13) : ∀ i m fu τ, m + i = mc D + 1 → i < fu → a < m → Fr Xv σ τ → Ok (f_X12_behind_15 fu 225 (nI c) (nI w) (nI a) (iL (lv (vmin (chsT p T c w a) (vmn (behF p T c w a) m)))) (nI m) τ) (fun r => r.1 = iL (lv (behT p T c w a)) ∧ Fr Xv σ r.2) := by
  have hb := h0.bd
  have hx1 : ¬ Xv 225 42 := by unfold Xv; omega
  have hx2 : ∀ j, ¬ Xv 248 j := by unfold Xv; omega
  have hx3 : ∀ j, ¬ Xv 264 j := by unfold Xv; omega
  have eF : behT p T c w a = vmin (chsT p T c w a) (vmn (behF p T c w a) (mc D + 1)) := by
    unfold behT; rw [hp.2.1]; rfl
  intro i
  induction i with
  | zero =>
    intro m fu τ hm hf ham g
    obtain ⟨fu, rfl⟩ : ∃ q, fu = q + 1 := ⟨fu - 1, by omega⟩
    have h := h0.q (g.mono Xv_q)
    have hW := h.w
    refine ⟨(iL (lv (behT p T c w a)), τ), ?_, rfl, g⟩
    show f_X12_behind_15_b _ _ _ _ _ _ _ _ = _
    unfold f_X12_behind_15_b
    simp only [to_bq, l_0, l_1, l_2, l_3, l_4, l_5, l_6, l_7, l_8, l_9, l_10, l_11, l_12, l_13, l_14, l_15, l_16, l_17, l_18, l_19, l_20, l_21, l_22, l_23, l_24, l_25, l_26, l_27, l_28, l_29, l_30, l_31, l_32, l_40, l_41, l_42, l_43, l_44, l_45, l_46, l_47, l_48, l_49, l_50, l_51, l_52, l_53, l_54, l_55, l_56, l_57, l_58, l_59, l_60, l_61, l_62, l_63, l_64, l_72, l_97, l_99, l_100, l_104, l_120, l_122, l_128, l_140, l_255, l_256, l_257, l_258, l_260, l_261, l_262, l_364, l_680, l_700, l_701, l_840, l_999, l_1023, l_1024, l_9999, l_10000, l_1000000, lm]
    simp (disch := first | (with_reducible assumption) | omega | exact ⟨by omega, by omega⟩ | ((with_reducible first | apply Wf.wI | apply Wf.wL | apply Wf.fL | apply Wf.fI | apply Wf.fr); (repeat (with_reducible first | assumption | apply Wf.wI | apply Wf.wL | apply Wf.fL | apply Wf.fI | apply Wf.fr)))) only [ck_225, gI_225, gL_225, pI_225, pZ0_225, pZ1_225, pL_225, gR_225_1, gR_225_3, gR_225_4, gR_225_5, gR_225_6, gR_225_7, gR_225_8, gR_225_9, gR_225_10, gR_225_11, gR_225_12, gR_225_13, gR_225_14, gR_225_15, gR_225_16, gR_225_17, gR_225_18, gR_225_19, gR_225_20, gR_225_21, gR_225_35, gR_225_36, gR_225_38, gR_225_39, gR_225_40, gR_225_41, gR_225_43, gR_225_44, gR_225_45, gR_225_48, gR_225_49, gR_225_50, gR_225_51, gR_225_53, gR_225_54, gR_225_55, gR_225_56, gR_225_58, gR_225_59, gR_225_60, gR_225_61, gR_225_62, gR_225_63, gR_225_66, gR_225_67, bq_n, bd_s, mp_s, rz_0, rz_1, bI_rz, zadd, zmul, zsub, le_nI, lt_nI, eq_nI, neg_nI, gen_nI, neg_lt, neg_le, neg_lt', neg_le', nI_lt0, if_true, if_false, ite_true, ite_false, reduceIte, not_true, not_false, and_true, true_and, and_false, false_and, or_true, true_or, or_false, false_or, eq_self, aI_227, rd_mc h, show (mc D < m) = True from eq_true (by omega)]
    rw [eF, show m = mc D + 1 by omega]
  | succ i ih =>
    intro m fu τ hm hf ham g
    obtain ⟨fu, rfl⟩ : ∃ q, fu = q + 1 := ⟨fu - 1, by omega⟩
    have h := h0.q (g.mono Xv_q)
    have hW := h.w
    have hq : ah_L τ 265 c = iL (Q c) := by rw [g.L (by unfold Xv; omega)]; exact hq0.1
    show Ok (f_X12_behind_15_b _ _ _ _ _ _ _ _) _
    unfold f_X12_behind_15_b
    simp only [to_bq, l_0, l_1, l_2, l_3, l_4, l_5, l_6, l_7, l_8, l_9, l_10, l_11, l_12, l_13, l_14, l_15, l_16, l_17, l_18, l_19, l_20, l_21, l_22, l_23, l_24, l_25, l_26, l_27, l_28, l_29, l_30, l_31, l_32, l_40, l_41, l_42, l_43, l_44, l_45, l_46, l_47, l_48, l_49, l_50, l_51, l_52, l_53, l_54, l_55, l_56, l_57, l_58, l_59, l_60, l_61, l_62, l_63, l_64, l_72, l_97, l_99, l_100, l_104, l_120, l_122, l_128, l_140, l_255, l_256, l_257, l_258, l_260, l_261, l_262, l_364, l_680, l_700, l_701, l_840, l_999, l_1023, l_1024, l_9999, l_10000, l_1000000, lm]
    simp (disch := first | (with_reducible assumption) | omega | exact ⟨by omega, by omega⟩ | ((with_reducible first | apply Wf.wI | apply Wf.wL | apply Wf.fL | apply Wf.fI | apply Wf.fr); (repeat (with_reducible first | assumption | apply Wf.wI | apply Wf.wL | apply Wf.fL | apply Wf.fI | apply Wf.fr)))) only [ck_225, gI_225, gL_225, pI_225, pZ0_225, pZ1_225, pL_225, gR_225_1, gR_225_3, gR_225_4, gR_225_5, gR_225_6, gR_225_7, gR_225_8, gR_225_9, gR_225_10, gR_225_11, gR_225_12, gR_225_13, gR_225_14, gR_225_15, gR_225_16, gR_225_17, gR_225_18, gR_225_19, gR_225_20, gR_225_21, gR_225_35, gR_225_36, gR_225_38, gR_225_39, gR_225_40, gR_225_41, gR_225_43, gR_225_44, gR_225_45, gR_225_48, gR_225_49, gR_225_50, gR_225_51, gR_225_53, gR_225_54, gR_225_55, gR_225_56, gR_225_58, gR_225_59, gR_225_60, gR_225_61, gR_225_62, gR_225_63, gR_225_66, gR_225_67, bq_n, bd_s, mp_s, rz_0, rz_1, bI_rz, zadd, zmul, zsub, le_nI, lt_nI, eq_nI, neg_nI, gen_nI, neg_lt, neg_le, neg_lt', neg_le', nI_lt0, if_true, if_false, ite_true, ite_false, reduceIte, not_true, not_false, and_true, true_and, and_false, false_and, or_true, true_or, or_false, false_or, eq_self, aI_227, rd_mc h, show (mc D < m) = False from eq_false (by omega), m_hasLaw h, bI_0, ite_n, aL_265, sL_265, len_265, hq]
    by_cases q : told D 2
    · rw [if_neg (show ¬ lto D 2 ≤ lfr D 2 from q)]
      obtain ⟨⟨r1, r2⟩, e1, e2, e3⟩ := m_pumpBy h (l := m - a) (f := Q c) (by omega) hq0.2.1 hq0.2.2
      have e2 : r1 = iL (pumpv D (m - a) (Q c)) := e2
      have g2 : Fr Xv σ r2 := g.trans e3
      have h2 := h0.q (g2.mono Xv_q)
      have hpv := pumpv_b h0.t (l := m - a) (f := Q c) (by omega) hq0.2
      have ed : dpp p c (m - a) = some ((pumpv D (m - a) (Q c)).toNat, 0) := by rw [hp.2.2]; unfold pmv; rw [if_pos q]
      have e2' : r1 = iL (lv (dpp p c (m - a))) := by
        rw [ed, e2]
        show _ = iL (((pumpv D (m - a) (Q c)).toNat : Nat) : Int)
        rw [Int.toNat_of_nonneg hpv.1]
      have db : vb (dpp p c (m - a)) 1000000000000 := by rw [hp.2.2]; exact pmv_b h0.t hq0.2 (by omega)
      have cb : vb (chjT p T c w m) 8000000000000000 := by
        have := chj_b hp.1 h0.t.qc7 hr0 hw (show m < 13 by omega) (nC D) (Nat.le_refl _)
        unfold chjT; rw [hp.1.2]; exact this
      rw [e1, bq_n]
      rw [m_all1 h2 (hs0.fr g2 hb.1 hx1 (fun c _ => hx2 _)) hp.1 hc (hr0.fr g2 hx3) hw (by omega), bq_n]
      show Ok (bq _ _ (f_X12_plus r1 _ _)) _
      rw [e2', m_plus db cb (by decide), bq_n]
      have eb : vadd (dpp p c (m - a)) (chjT p T c w m) = behF p T c w a m := by unfold behF; rw [if_pos ham]
      rw [eb]
      have xb : vb (vmin (chsT p T c w a) (vmn (behF p T c w a) m)) 9000000000000000 := vb_min (chs_b h0.t hp hr0 hw ha) (vb_mn _ (fun j hj => behF_b h0.t hp hr0 hq0.2 hw (by omega)))
      show Ok (f_X12_behind_15 fu 225 (nI c) (nI w) (nI a) (op_minl _ (iL (lv (behF p T c w a m)))) (nI m + nI 1) r2) _
      rw [minl_v xb (behF_b h0.t hp hr0 hq0.2 hw (by omega)) (by decide), vmin_as, zadd]
      exact ih (m + 1) fu r2 (by omega) (by omega) (by omega) g2
    · rw [if_pos (show lto D 2 ≤ lfr D 2 from Classical.byContradiction q)]
      refine ⟨_, rfl, ?_, g⟩
      have hnone : ∀ k, vmn (behF p T c w a) k = none := fun k => vmn_none k (fun j _ => by
        unfold behF
        by_cases z : a < j
        · rw [if_pos z, hp.2.2, show pmv D Q c (j - a) = none by unfold pmv; rw [if_neg q]]; rfl
        · rw [if_neg z])
      show iL (lv (vmin (chsT p T c w a) (vmn (behF p T c w a) m))) = _
      rw [eF, hnone, hnone]
theorem m_behind (h : MInv σ D) (hs : StR σ D e st) (hp : Pq p D st Q) (hc : c < nC D) (hr : Kid σ D st T c) (hq : Qr σ Q c) (hw : w < 4) (ha : a ≤ mc D) : Ok (f_X12_behind 225 (nI c) (nI w) (nI a) σ) (fun r => r.1 = iL (lv (behT p T c w a)) ∧ Fr Xv σ r.2) := by
  have hb := h.bd
  unfold f_X12_behind f_X12_behind_0
  simp only [to_bq, l_0, l_1, l_2, l_3, l_4, l_5, l_6, l_7, l_8, l_9, l_10, l_11, l_12, l_13, l_14, l_15, l_16, l_17, l_18, l_19, l_20, l_21, l_22, l_23, l_24, l_25, l_26, l_27, l_28, l_29, l_30, l_31, l_32, l_40, l_41, l_42, l_43, l_44, l_45, l_46, l_47, l_48, l_49, l_50, l_51, l_52, l_53, l_54, l_55, l_56, l_57, l_58, l_59, l_60, l_61, l_62, l_63, l_64, l_72, l_97, l_99, l_100, l_104, l_120, l_122, l_128, l_140, l_255, l_256, l_257, l_258, l_260, l_261, l_262, l_364, l_680, l_700, l_701, l_840, l_999, l_1023, l_1024, l_9999, l_10000, l_1000000, lm]
  rw [ck_225 h.w, m_all0 h hs hp.1 hc hr hw (by omega), bq_n, zadd]
  have := m_beh15 h hs hp hc hr hq hw (show a < 13 by omega) (mc D - a) (a + 1) 5000 σ (by omega) (by omega) (by omega) Fr.rfl
  rw [vmn_none (f := behF p T c w a) (a + 1) (fun j hj => by unfold behF; rw [if_neg (by omega)]), vmin_n] at this
  exact this
theorem m_isFixed (F : Int32) {v : Nat} : f_X12_isFixed F (nI v) σ = some (cI (fx F v), σ) := by
  unfold f_X12_isFixed f_X12_isFixed_0
  simp only [to_bq, l_0, l_1, l_2, l_3, l_4, l_5, l_6, l_7, l_8, l_9, l_10, l_11, l_12, l_13, l_14, l_15, l_16, l_17, l_18, l_19, l_20, l_21, l_22, l_23, l_24, l_25, l_26, l_27, l_28, l_29, l_30, l_31, l_32, l_40, l_41, l_42, l_43, l_44, l_45, l_46, l_47, l_48, l_49, l_50, l_51, l_52, l_53, l_54, l_55, l_56, l_57, l_58, l_59, l_60, l_61, l_62, l_63, l_64, l_72, l_97, l_99, l_100, l_104, l_120, l_122, l_128, l_140, l_255, l_256, l_257, l_258, l_260, l_261, l_262, l_364, l_680, l_700, l_701, l_840, l_999, l_1023, l_1024, l_9999, l_10000, l_1000000, lm]
  by_cases q1 : F = mI 1
  · rw [if_pos q1, cI_t (show fx F v from Or.inl q1)]; rfl
  · rw [if_neg q1]
    by_cases q2 : F = nI v
    · rw [if_pos q2, cI_t (show fx F v from Or.inr q2)]; rfl
    · rw [if_neg q2, cI_f (show ¬ fx F v from fun z => z.elim q1 q2)]; rfl
end
