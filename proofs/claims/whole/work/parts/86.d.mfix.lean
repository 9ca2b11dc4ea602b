/-! THE REFERENCE: the least layout is fixed -/
section
variable {σ : ah_H} {D : DD} {m : Nat}
theorem m_cheapestOf2 (h : MInv σ D) (hm : TrQ D m) (q : D 227 4 ≠ mI 1) : ∃ τ dp, f_X12_cheapestOf 225 (nI m) σ = some (iL (lv (cpv D m)), τ) ∧ Fr Xcq σ τ ∧ OrS D m (ost D m) ∧ LsC τ D (ost D m) (dpD D (ost D m) noF noF noF) (gq D (ost D m)) noF noF noF (kyD D) (riv D) dp ∧ ∀ c, nC D ≤ c → c < 7 → ah_I τ 248 (7 + c) = mI 1 ∧ ah_I τ 266 c = mI 1 ∧ ah_I τ 267 c = mI 1 ∧ ah_I τ 268 c = mI 1 := by
  have hb := h.bd
  have hW := h.w
  have hrv := rd_riv h
  unfold f_X12_cheapestOf f_X12_cheapestOf_0
  simp only [to_bq, l_0, l_1, l_2, l_3, l_4, l_5, l_6, l_7, l_8, l_9, l_10, l_11, l_12, l_13, l_14, l_15, l_16, l_17, l_18, l_19, l_20, l_21, l_22, l_23, l_24, l_25, l_26, l_27, l_28, l_29, l_30, l_31, l_32, l_40, l_41, l_42, l_43, l_44, l_45, l_46, l_47, l_48, l_49, l_50, l_51, l_52, l_53, l_54, l_55, l_56, l_57, l_58, l_59, l_60, l_61, l_62, l_63, l_64, l_72, l_97, l_99, l_100, l_104, l_120, l_122, l_128, l_140, l_255, l_256, l_257, l_258, l_260, l_261, l_262, l_364, l_680, l_700, l_701, l_840, l_999, l_1023, l_1024, l_9999, l_10000, l_1000000, lm]
  simp (disch := first | (with_reducible assumption) | omega | exact ⟨by omega, by omega⟩ | ((with_reducible first | apply Wf.wI | apply Wf.wL | apply Wf.fL | apply Wf.fI | apply Wf.fr); (repeat (with_reducible first | assumption | apply Wf.wI | apply Wf.wL | apply Wf.fL | apply Wf.fI | apply Wf.fr)))) only [ck_225, gI_225, gL_225, pI_225, pZ0_225, pZ1_225, pL_225, gR_225_1, gR_225_3, gR_225_4, gR_225_5, gR_225_6, gR_225_7, gR_225_8, gR_225_9, gR_225_10, gR_225_11, gR_225_12, gR_225_13, gR_225_14, gR_225_15, gR_225_16, gR_225_17, gR_225_18, gR_225_19, gR_225_20, gR_225_21, gR_225_35, gR_225_36, gR_225_38, gR_225_39, gR_225_40, gR_225_41, gR_225_43, gR_225_44, gR_225_45, gR_225_48, gR_225_49, gR_225_50, gR_225_51, gR_225_53, gR_225_54, gR_225_55, gR_225_56, gR_225_58, gR_225_59, gR_225_60, gR_225_61, gR_225_62, gR_225_63, gR_225_66, gR_225_67, bq_n, bd_s, mp_s, rz_0, rz_1, bI_rz, if_true, if_false, ite_true, ite_false, reduceIte, not_true, not_false, and_true, true_and, and_false, false_and, or_true, true_or, or_false, false_or, eq_self, aI_227, hrv, q_4000000000000000000]
  rw [if_neg q]
  obtain ⟨r1, r2, r3, r4⟩ := h.t.rv q
  have hm2 : m < 2147483648 := Nat.lt_of_lt_of_le hm.1 (Nat.le_trans (Nat.pow_le_pow_right (by omega) hb.2.1) (by decide))
  -- net 1
  have fA : Fr Xq σ (ah_wI σ 225 42 (nI 1)) := Fr.q0 (by omega)
  rw [m_ch23 7 0 5000 _ (by omega) (by omega) (hW.wI _ _ _)]
  have fB : Fr Xq σ (ah_fI (ah_wI σ 225 42 (nI 1)) 248 (7 + 0) 14 (mI 1)) := fA.fI (fun j _ _ => by unfold Xq; omega)
  have fB' : Fr Xcq σ (ah_fI (ah_wI σ 225 42 (nI 1)) 248 (7 + 0) 14 (mI 1)) := ((Fr.rfl (X := Xcq) (σ := σ)).wI (by unfold Xcq Xq; omega)).fI (fun j _ _ => by unfold Xcq Xq; omega)
  have n42 : ah_I (ah_fI (ah_wI σ 225 42 (nI 1)) 248 (7 + 0) 14 (mI 1)) 225 42 = nI 1 := by rw [I_fI, if_neg (by omega), rI_eq]
  have n248 : ∀ c, c < 7 → ah_I (ah_fI (ah_wI σ 225 42 (nI 1)) 248 (7 + 0) 14 (mI 1)) 248 (7 + c) = mI 1 := fun c hc => by rw [I_fI, if_pos ⟨rfl, by omega, by omega⟩]
  generalize ah_fI (ah_wI σ 225 42 (nI 1)) 248 (7 + 0) 14 (mI 1) = τ at *
  have hτ := h.q fB
  unfold f_X12_cheapestOf_45
  simp only [to_bq, l_0, l_1, l_2, l_3, l_4, l_5, l_6, l_7, l_8, l_9, l_10, l_11, l_12, l_13, l_14, l_15, l_16, l_17, l_18, l_19, l_20, l_21, l_22, l_23, l_24, l_25, l_26, l_27, l_28, l_29, l_30, l_31, l_32, l_40, l_41, l_42, l_43, l_44, l_45, l_46, l_47, l_48, l_49, l_50, l_51, l_52, l_53, l_54, l_55, l_56, l_57, l_58, l_59, l_60, l_61, l_62, l_63, l_64, l_72, l_97, l_99, l_100, l_104, l_120, l_122, l_128, l_140, l_255, l_256, l_257, l_258, l_260, l_261, l_262, l_364, l_680, l_700, l_701, l_840, l_999, l_1023, l_1024, l_9999, l_10000, l_1000000, lm]
  obtain ⟨τ2, fa, st, e1, e2, e3⟩ := m_joinsFrom (m := m) (r := riv D) hτ hm2 r2
  have f2 : Fr Xjf τ τ2 := e2.1
  have h2 := e2.mi hτ
  obtain ⟨o1, o2⟩ := JS.or hτ r2 e2 e3 hm
  have hos : OrS D m st := ⟨o1, fun c hc => e2.2.1.2.2.2.2.1 c (e2.2.1.2.2.2.1 c hc)⟩
  have hst := ost_eq h.t hm hos
  have hS : StR τ2 D 1 st := by
    refine ⟨by rw [f2.I (by unfold Xjf; omega)]; exact n42, by omega, fun c hc => ⟨?_, fun s hs => ?_⟩⟩
    · rw [show 7 * 1 + c = 7 + c by omega, e2.2.2.2 c (by omega)]
      cases e : st c with
      | none => exact n248 c (by omega)
      | some s => rfl
    · by_cases z : c = riv D
      · rw [z, o1.2.1] at hs; cases hs
      · obtain ⟨s', z1, z2, -⟩ := o1.1 c hc z
        rw [hs] at z1; cases z1; exact z2
  rw [r1, e1, bq_n]
  obtain ⟨ρ, k1, k2, k3⟩ := m_run0 h2 hS
  show ∃ τ dp, bq _ _ (f_X12_run 225 (nI 0) τ2) = _ ∧ _
  rw [k1, bq_n]
  have h3 := h2.q (k2.mono Xr_q)
  have hq5 : ∀ a j, (Xg a j ∨ a = 265) → Xq a j := fun a j z => z.elim (Xg_q a j) (fun z => by unfold Xq; omega)
  obtain ⟨τ3, j1, j2, j3⟩ := m_ch59 h3 k3 (nC D) 0 5000 ρ (by omega) (by omega) Fr.rfl (fun c hc => by omega)
  rw [j1]
  have h4 := h3.q (j2.mono hq5)
  unfold f_X12_cheapestOf_86
  simp only [to_bq, l_0, l_1, l_2, l_3, l_4, l_5, l_6, l_7, l_8, l_9, l_10, l_11, l_12, l_13, l_14, l_15, l_16, l_17, l_18, l_19, l_20, l_21, l_22, l_23, l_24, l_25, l_26, l_27, l_28, l_29, l_30, l_31, l_32, l_40, l_41, l_42, l_43, l_44, l_45, l_46, l_47, l_48, l_49, l_50, l_51, l_52, l_53, l_54, l_55, l_56, l_57, l_58, l_59, l_60, l_61, l_62, l_63, l_64, l_72, l_97, l_99, l_100, l_104, l_120, l_122, l_128, l_140, l_255, l_256, l_257, l_258, l_260, l_261, l_262, l_364, l_680, l_700, l_701, l_840, l_999, l_1023, l_1024, l_9999, l_10000, l_1000000, lm]
  rw [m_ch88 364 0 5000 τ3 (by omega) (by omega) h4.w]
  unfold f_X12_cheapestOf_112
  simp only [to_bq, l_0, l_1, l_2, l_3, l_4, l_5, l_6, l_7, l_8, l_9, l_10, l_11, l_12, l_13, l_14, l_15, l_16, l_17, l_18, l_19, l_20, l_21, l_22, l_23, l_24, l_25, l_26, l_27, l_28, l_29, l_30, l_31, l_32, l_40, l_41, l_42, l_43, l_44, l_45, l_46, l_47, l_48, l_49, l_50, l_51, l_52, l_53, l_54, l_55, l_56, l_57, l_58, l_59, l_60, l_61, l_62, l_63, l_64, l_72, l_97, l_99, l_100, l_104, l_120, l_122, l_128, l_140, l_255, l_256, l_257, l_258, l_260, l_261, l_262, l_364, l_680, l_700, l_701, l_840, l_999, l_1023, l_1024, l_9999, l_10000, l_1000000, lm]
  have fL : Fr (fun a _ => a = 264) τ3 (ah_fL τ3 264 0 364 (iL 4000000000000000000)) := (Fr.rfl (X := fun a _ => a = 264) (σ := τ3)).fL (fun j _ _ => rfl)
  generalize ah_fL τ3 264 0 364 (iL 4000000000000000000) = τ4 at *
  have h5 := h4.q (fL.mono (fun a j z => by unfold Xq; omega))
  obtain ⟨τ5, i1, i2, i3⟩ := m_free h5.w
  have h6 := h5.q (i2.mono (fun a j z => by unfold Xq; omega))
  rw [i1, bq_n]
  -- one frame from the net on
  have fT : Fr (fun a j => Xr a j ∨ Xg a j ∨ 264 ≤ a ∧ a ≤ 268) τ2 τ5 := (((k2.mono (fun a j z => Or.inl z)).trans (j2.mono (fun a j z => z.elim (fun z => Or.inr (Or.inl z)) (fun z => Or.inr (Or.inr ⟨by omega, by omega⟩))))).trans (fL.mono (fun a j z => Or.inr (Or.inr ⟨by omega, by omega⟩)))).trans (i2.mono (fun a j z => Or.inr (Or.inr ⟨by omega, by omega⟩)))
  have hS5 : StR τ5 D 1 st := hS.fr fT hb.1 (by unfold Xr Xg; omega) (fun c _ => by unfold Xr Xg; omega)
  have ls : LsC τ5 D st (dpD D st noF noF noF) (gq D st) noF noF noF (kyD D) (riv D) (fun c => (fa c).getD 0) := by
    refine ⟨h6, hS5, (dpD_q D st noF noF noF).1, (dpD_q D st noF noF noF).2, r2, fun c hc hcr => ?_, o1.2.1, fun c hc => ⟨?_, ?_, ?_⟩, fun c hc => i3 c (by omega), fun c hc => ?_⟩
    · obtain ⟨s, z1, -⟩ := o1.1 c hc hcr
      exact ⟨s, z1⟩
    · rw [i2.L (by omega), fL.L (by omega)]
      exact j3 c hc
    · unfold gq; omega
    · have := gmx_b (st := st) (cp := plain) h.t hc
      unfold gq; omega
    · obtain ⟨d, d1, d2, d3, d4⟩ := o2 c hc
      rw [fT.I (by unfold Xr Xg; omega), e2.2.2.1 c hc]
      show sv (fa c) = nI ((fa c).getD 0) ∧ (fa c).getD 0 < nC D ∧ ((fa c).getD 0 = 0 ↔ c = riv D) ∧ ∀ k, nx D st c = some k → (fa c).getD 0 = (fa k).getD 0 + 1
      rw [d1]
      refine ⟨rfl, d2, d4, fun k hk => ?_⟩
      have hcr : c ≠ riv D := fun z => by
        rw [z] at hk
        unfold nx at hk
        rw [o1.2.1] at hk
        cases hk
      obtain ⟨s, s1, s2, s3, s4, x, x1, x2⟩ := e2.2.1.2.2.1 c hc hcr d d1
      unfold nx at hk
      rw [s1] at hk
      cases hk
      rw [x2]
      exact x1
  obtain ⟨τ6, g1, g2⟩ := m_leastOf ls q rfl
  rw [g1, bq_n]
  refine ⟨τ6, fun c => (fa c).getD 0, ?_, ?_, ?_, ?_, ?_⟩
  · unfold cpv
    rw [if_neg q, ← hst]
  · exact ((fB'.trans (f2.mono (fun a j z => by unfold Xjf at z; unfold Xcq Xq; omega))).trans (fT.mono (fun a j z => by unfold Xr Xg at z; unfold Xcq Xq; omega))).trans (g2.mono (fun a j z => by unfold Xlo Xv at z; unfold Xcq Xq; omega))
  · rw [← hst]; exact hos
  · rw [← hst]
    exact ls.fr g2
  · intro c hc1 hc2
    have x1 : ∀ a j, a = 248 ∨ 266 ≤ a ∧ a ≤ 268 → ¬ Xlo a j := fun a j _ => by unfold Xlo Xv; omega
    obtain ⟨y1, y2, y3⟩ := i3 c hc2
    refine ⟨?_, by rw [g2.I (x1 _ _ (by omega))]; exact y1, by rw [g2.I (x1 _ _ (by omega))]; exact y2, by rw [g2.I (x1 _ _ (by omega))]; exact y3⟩
    rw [g2.I (x1 _ _ (by omega)), fT.I (by unfold Xr Xg; omega), e2.2.2.2 c hc2, hos.2 c hc1]
    exact n248 c hc2
end
def upF (F : Nat → Int32) (c : Nat) (v : Int32) : Nat → Int32 := fun o => if o = c then v else F o
theorem upF_e {F : Nat → Int32} {c : Nat} {v : Int32} : upF F c v c = v := if_pos rfl
theorem upF_o {F : Nat → Int32} {c o : Nat} {v : Int32} (h : o ≠ c) : upF F c v o = F o := if_neg h
theorem upF_u {F : Nat → Int32} {c : Nat} {v w : Int32} : upF (upF F c v) c w = upF F c w := by
  funext o
  unfold upF
  by_cases q : o = c
  · rw [if_pos q, if_pos q]
  · rw [if_neg q, if_neg q, if_neg q]
/-- a tree with pipes that are fixed -/
def LF (σ : ah_H) (D : DD) (st : Nat → Option Nat) (F1 F2 F3 : Nat → Int32) (dp : Nat → Nat) : Prop := LsC σ D st (dpD D st F1 F2 F3) (gq D st) F1 F2 F3 (kyD D) (riv D) dp
def Xfx (n a j : Nat) : Prop := Xlo a j ∨ 266 ≤ a ∧ a ≤ 268 ∧ j < n
section
variable {σ τ : ah_H} {D : DD} {m c : Nat} {st : Nat → Option Nat} {F1 F2 F3 : Nat → Int32} {dp : Nat → Nat} {l : Lay} {x : Nat × Nat}
theorem LF.set (h : LF σ D st F1 F2 F3 dp) (g : Fr (fun a j => 266 ≤ a ∧ a ≤ 268) σ τ) {G1 G2 G3 : Nat → Int32} (e : ∀ c, c < nC D → ah_I τ 266 c = G1 c ∧ ah_I τ 267 c = G2 c ∧ ah_I τ 268 c = G3 c) : LF τ D st G1 G2 G3 dp := by
  obtain ⟨h1, h2, h3, h4, h5, h6, h7, h8, h9, h10⟩ := h
  refine ⟨h1.q (g.mono (fun a j z => by unfold Xq; omega)), h2.fr g h1.bd.1 (by omega) (fun j _ => by omega), (dpD_q D st G1 G2 G3).1, (dpD_q D st G1 G2 G3).2, h5, h6, h7, fun c hc => ⟨by rw [g.L (by omega)]; exact (h8 c hc).1, (h8 c hc).2⟩, e, fun c hc => by rw [g.I (by omega)]; exact h10 c hc⟩
theorem LF.fx (h : LF σ D st F1 F2 F3 dp) {c : Nat} (hc : c < nC D) : ah_I σ 266 c = F1 c ∧ ah_I σ 267 c = F2 c ∧ ah_I σ 268 c = F3 c := h.2.2.2.2.2.2.2.2.1 c hc
theorem LF.w1 (h : LF σ D st F1 F2 F3 dp) {v : Int32} : LF (ah_wI σ 266 c v) D st (upF F1 c v) F2 F3 dp := by
  refine h.set (Fr.rfl.wI ⟨by omega, by omega⟩) (fun o ho => ?_)
  obtain ⟨e1, e2, e3⟩ := h.fx ho
  refine ⟨?_, by rw [rI_ne (by omega)]; exact e2, by rw [rI_ne (by omega)]; exact e3⟩
  by_cases q : o = c
  · rw [q, rI_eq, upF_e]
  · rw [rI_ne (by omega), upF_o q]; exact e1
theorem LF.w2 (h : LF σ D st F1 F2 F3 dp) {v : Int32} : LF (ah_wI σ 267 c v) D st F1 (upF F2 c v) F3 dp := by
  refine h.set (Fr.rfl.wI ⟨by omega, by omega⟩) (fun o ho => ?_)
  obtain ⟨e1, e2, e3⟩ := h.fx ho
  refine ⟨by rw [rI_ne (by omega)]; exact e1, ?_, by rw [rI_ne (by omega)]; exact e3⟩
  by_cases q : o = c
  · rw [q, rI_eq, upF_e]
  · rw [rI_ne (by omega), upF_o q]; exact e2
theorem LF.w3 (h : LF σ D st F1 F2 F3 dp) {v : Int32} : LF (ah_wI σ 268 c v) D st F1 F2 (upF F3 c v) dp := by
  refine h.set (Fr.rfl.wI ⟨by omega, by omega⟩) (fun o ho => ?_)
  obtain ⟨e1, e2, e3⟩ := h.fx ho
  refine ⟨by rw [rI_ne (by omega)]; exact e1, by rw [rI_ne (by omega)]; exact e2, ?_⟩
  by_cases q : o = c
  · rw [q, rI_eq, upF_e]
  · rw [rI_ne (by omega), upF_o q]; exact e3
theorem LF.top_b (h : LF σ D st F1 F2 F3 dp) : vb (topF D st F1 F2 F3) 9000000000000000 := by
  have hb := h.1.bd
  unfold topF topT
  by_cases q1 : nC D = 1
  · rw [if_pos q1]; intro x hx; cases hx; exact Nat.zero_le _
  rw [if_neg q1]
  by_cases q2 : hgt D (riv D) < lev D
  · rw [if_pos q2]; exact vb_none _
  rw [if_neg q2]
  refine vb_mono (vb_sm (g := fun _ => 1000000000000000) _ (fun o ho => ?_)) (Nat.le_trans (sm_k _) ?_)
  · by_cases z : dpx (dpD D st F1 F2 F3) o = some (riv D)
    · rw [if_pos z]
      exact vb_mn _ (fun v hv => vb_mn _ (fun b hb => LsC.tb h ho v b))
    · rw [if_neg z]; intro x hx; cases hx; exact Nat.zero_le _
  · show nC D * 1000000000000000 ≤ _
    omega
/-- is it the least cost? -/
theorem LF.cmp (h : LF σ D st F1 F2 F3 dp) (hr4 : D 227 4 ≠ mI 1) (hxb : x.1 ≤ 9000000000000000) : ∃ τ, f_X12_leastOf 225 σ = some (iL (lv (topF D st F1 F2 F3)), τ) ∧ Fr Xlo σ τ ∧ (lg_cmp (iL (lv (topF D st F1 F2 F3))) (iL (x.1 : Int)) = nI 0 ↔ ∃ y, topF D st F1 F2 F3 = some y ∧ y.1 = x.1) := by
  obtain ⟨τ, e1, e2⟩ := m_leastOf h hr4 rfl
  refine ⟨τ, e1, e2, ?_⟩
  have tb := h.top_b
  have lb := lv_b tb (by decide)
  rw [cmp_e ⟨by omega, by omega⟩ ⟨by omega, by omega⟩]
  cases e : topF D st F1 F2 F3 with
  | none =>
    refine ⟨fun z => ?_, fun ⟨y, hy, _⟩ => by cases hy⟩
    have z : (4000000000000000000 : Int) = (x.1 : Int) := z
    omega
  | some y =>
    refine ⟨fun z => ⟨y, rfl, ?_⟩, fun ⟨u, hu, hu2⟩ => ?_⟩
    · have z : (y.1 : Int) = (x.1 : Int) := z
      omega
    · cases hu
      show (y.1 : Int) = (x.1 : Int)
      omega
/-- what is fixed: the corners ahead of c -/
def FxS (D : DD) (l : Lay) (F1 F2 F3 : Nat → Int32) (c : Nat) : Prop := (∀ o, o < c → o ≠ riv D → F1 o = nI (lyw l o) ∧ F2 o = nI (lya l o) ∧ F3 o = nI (lyb l o)) ∧ ∀ o, (c ≤ o ∨ o = riv D) → F1 o = mI 1 ∧ F2 o = mI 1 ∧ F3 o = mI 1
theorem FxS.cp (h : FxS D l F1 F2 F3 c) : ∀ o, o ≠ riv D → cpt F1 F2 F3 l o := by
  intro o ho
  by_cases q : o < c
  · obtain ⟨a1, a2, a3⟩ := h.1 o q ho
    exact ⟨Or.inr a1, Or.inr a2, Or.inr a3⟩
  · obtain ⟨a1, a2, a3⟩ := h.2 o (Or.inl (by omega))
    exact ⟨Or.inl a1, Or.inl a2, Or.inl a3⟩
/-- all that fixing rests on -/
def FxH (D : DD) (m : Nat) (st : Nat → Option Nat) (l : Lay) (x : Nat × Nat) : Prop := MT D ∧ OrP D m (riv D) st ∧ D 227 4 ≠ mI 1 ∧ x.1 ≤ 9000000000000000 ∧ topF D st noF noF noF = some x ∧ LyT D (dpD D st noF noF noF) l x
theorem nI_fx {u v : Nat} (hu : u ≤ 100) (hv : v ≤ 100) (z : fx (nI u) v) : v = u := by
  rcases z with z | z
  · rw [neg_nI (by omega) (by omega) (by omega)] at z; exact z.elim
  · rw [eq_nI (by omega) (by omega)] at z; exact z.symm
theorem m_fx65 (hx : FxH D m st l x) (hc : c < nC D) (hcr : c ≠ riv D) (hS : FxS D l F1 F2 F3 c) : ∀ i b fu τ, b + i = lyb l c → i < fu → Fr (Xfx (nC D)) σ τ → LF τ D st (upF F1 c (nI (lyw l c))) (upF F2 c (nI (lya l c))) (upF F3 c (nI b)) dp → ∃ τ', f_X12_fixes_65 fu 225 (nI c) (iL (x.1 : Int)) τ = some τ' ∧ Fr (Xfx (nC D)) σ τ' ∧ LF τ' D st (upF F1 c (nI (lyw l c))) (upF F2 c (nI (lya l c))) (upF F3 c (nI (lyb l c))) dp := by
  obtain ⟨x1, x2, x3, x4, x5, x6⟩ := hx
  have b7 := x1.qc7
  have b4 := x1.qp4
  have b12 := x1.qmc12
  obtain ⟨c1, c2, c3, -⟩ := LyT_in x1 x2 x6 hc hcr
  intro i
  induction i with
  | zero =>
    intro b fu τ hb hf g hL
    obtain ⟨fu, rfl⟩ : ∃ q, fu = q + 1 := ⟨fu - 1, by omega⟩
    obtain ⟨τ1, e1, e2, e3⟩ := LF.cmp (x := x) hL x3 x4
    have hc0 := e3.mpr (fix_eq x1 x2 x5 x6 (fun o ho hor => by
      by_cases q : o = c
      · subst q
        exact ⟨Or.inr upF_e, Or.inr upF_e, Or.inr (by rw [upF_e, show b = lyb l o by omega])⟩
      · have := hS.cp o hor
        unfold cpt
        rw [upF_o q, upF_o q, upF_o q]; exact this))
    refine ⟨τ1, ?_, g.trans (e2.mono (fun a j z => Or.inl z)), by rw [← show b = lyb l c by omega]; exact LsC.fr hL e2⟩
    show f_X12_fixes_65_b _ _ _ _ _ = _
    unfold f_X12_fixes_65_b
    simp only [to_bq, l_0, l_1, l_2, l_3, l_4, l_5, l_6, l_7, l_8, l_9, l_10, l_11, l_12, l_13, l_14, l_15, l_16, l_17, l_18, l_19, l_20, l_21, l_22, l_23, l_24, l_25, l_26, l_27, l_28, l_29, l_30, l_31, l_32, l_40, l_41, l_42, l_43, l_44, l_45, l_46, l_47, l_48, l_49, l_50, l_51, l_52, l_53, l_54, l_55, l_56, l_57, l_58, l_59, l_60, l_61, l_62, l_63, l_64, l_72, l_97, l_99, l_100, l_104, l_120, l_122, l_128, l_140, l_255, l_256, l_257, l_258, l_260, l_261, l_262, l_364, l_680, l_700, l_701, l_840, l_999, l_1023, l_1024, l_9999, l_10000, l_1000000, lm]
    rw [e1, bq_n]
    exact if_pos hc0
  | succ i ih =>
    intro b fu τ hb hf g hL
    obtain ⟨fu, rfl⟩ : ∃ q, fu = q + 1 := ⟨fu - 1, by omega⟩
    obtain ⟨τ1, e1, e2, e3⟩ := LF.cmp (x := x) hL x3 x4
    have hL1 : LF τ1 D st (upF F1 c (nI (lyw l c))) (upF F2 c (nI (lya l c))) (upF F3 c (nI b)) dp := LsC.fr hL e2
    have hW1 := hL1.1.w
    have v := (hL1.fx hc).2.2
    rw [upF_e] at v
    have hne : ¬ lg_cmp (iL (lv (topF D st (upF F1 c (nI (lyw l c))) (upF F2 c (nI (lya l c))) (upF F3 c (nI b))))) (iL (x.1 : Int)) = nI 0 := by
      intro z
      obtain ⟨y, hy, hy2⟩ := e3.mp z
      refine fix_ne x1 x2 x5 x6 hc hcr (fun o ho hor => ?_) (fun w a b' hw ha hb' f1 f2 f3 => ?_) hy hy2
      · rw [upF_o (by omega), upF_o (by omega), upF_o (by omega)]; exact hS.1 o ho hor
      · rw [upF_e] at f1 f2 f3
        have := nI_fx (by omega) (by omega) f1
        have := nI_fx (by omega) (by omega) f2
        have := nI_fx (by omega) (by omega) f3
        unfold cde
        omega
    have he : f_X12_fixes_65 (fu + 1) 225 (nI c) (iL (x.1 : Int)) τ = f_X12_fixes_65 fu 225 (nI c) (iL (x.1 : Int)) (ah_wI τ1 268 c (nI (b + 1))) := by
      show f_X12_fixes_65_b _ _ _ _ _ = _
      unfold f_X12_fixes_65_b
      simp only [to_bq, l_0, l_1, l_2, l_3, l_4, l_5, l_6, l_7, l_8, l_9, l_10, l_11, l_12, l_13, l_14, l_15, l_16, l_17, l_18, l_19, l_20, l_21, l_22, l_23, l_24, l_25, l_26, l_27, l_28, l_29, l_30, l_31, l_32, l_40, l_41, l_42, l_43, l_44, l_45, l_46, l_47, l_48, l_49, l_50, l_51, l_52, l_53, l_54, l_55, l_56, l_57, l_58, l_59, l_60, l_61, l_62, l_63, l_64, l_72, l_97, l_99, l_100, l_104, l_120, l_122, l_128, l_140, l_255, l_256, l_257, l_258, l_260, l_261, l_262, l_364, l_680, l_700, l_701, l_840, l_999, l_1023, l_1024, l_9999, l_10000, l_1000000, lm]
      rw [e1, bq_n]
      refine (if_neg hne).trans ?_
      simp (disch := first | (with_reducible assumption) | omega | exact ⟨by omega, by omega⟩ | ((with_reducible first | apply Wf.wI | apply Wf.wL | apply Wf.fL | apply Wf.fI | apply Wf.fr); (repeat (with_reducible first | assumption | apply Wf.wI | apply Wf.wL | apply Wf.fL | apply Wf.fI | apply Wf.fr)))) only [ck_225, gI_225, gL_225, pI_225, pZ0_225, pZ1_225, pL_225, gR_225_1, gR_225_3, gR_225_4, gR_225_5, gR_225_6, gR_225_7, gR_225_8, gR_225_9, gR_225_10, gR_225_11, gR_225_12, gR_225_13, gR_225_14, gR_225_15, gR_225_16, gR_225_17, gR_225_18, gR_225_19, gR_225_20, gR_225_21, gR_225_35, gR_225_36, gR_225_38, gR_225_39, gR_225_40, gR_225_41, gR_225_43, gR_225_44, gR_225_45, gR_225_48, gR_225_49, gR_225_50, gR_225_51, gR_225_53, gR_225_54, gR_225_55, gR_225_56, gR_225_58, gR_225_59, gR_225_60, gR_225_61, gR_225_62, gR_225_63, gR_225_66, gR_225_67, aI_268, sI_268, len_268, bq_n, bd_s, mp_s, rz_0, rz_1, bI_rz, zadd, v]
    rw [he]
    refine ih (b + 1) fu _ (by omega) (by omega) ((g.trans (e2.mono (fun a j z => Or.inl z))).wI (Or.inr ⟨by omega, by omega, by omega⟩)) ?_
    have := hL1.w3 (c := c) (v := nI (b + 1))
    rw [upF_u] at this
    exact this
theorem m_fx36 (hx : FxH D m st l x) (hc : c < nC D) (hcr : c ≠ riv D) (hS : FxS D l F1 F2 F3 c) : ∀ i b fu τ, b + i = lya l c → i < fu → Fr (Xfx (nC D)) σ τ → LF τ D st (upF F1 c (nI (lyw l c))) (upF F2 c (nI b)) F3 dp → ∃ τ', f_X12_fixes_36 fu 225 (nI c) (iL (x.1 : Int)) τ = some τ' ∧ Fr (Xfx (nC D)) σ τ' ∧ LF τ' D st (upF F1 c (nI (lyw l c))) (upF F2 c (nI (lya l c))) (upF F3 c (nI (lyb l c))) dp := by
  obtain ⟨x1, x2, x3, x4, x5, x6⟩ := id hx
  have b7 := x1.qc7
  have b4 := x1.qp4
  have b12 := x1.qmc12
  obtain ⟨c1, c2, c3, -⟩ := LyT_in x1 x2 x6 hc hcr
  intro i
  induction i with
  | zero =>
    intro b fu τ hb hf g hL
    obtain ⟨fu, rfl⟩ : ∃ q, fu = q + 1 := ⟨fu - 1, by omega⟩
    obtain ⟨τ1, e1, e2, e3⟩ := LF.cmp (x := x) hL x3 x4
    have hc0 := e3.mpr (fix_eq x1 x2 x5 x6 (fun o ho hor => by
      by_cases q : o = c
      · subst q
        exact ⟨Or.inr upF_e, Or.inr (by rw [upF_e, show b = lya l o by omega]), (hS.cp o hor).2.2⟩
      · have := hS.cp o hor
        unfold cpt
        rw [upF_o q, upF_o q]; exact this))
    have hL1 : LF τ1 D st (upF F1 c (nI (lyw l c))) (upF F2 c (nI (lya l c))) F3 dp := by rw [← show b = lya l c by omega]; exact LsC.fr hL e2
    have hW1 := hL1.1.w
    obtain ⟨τ', k1, k2, k3⟩ := m_fx65 hx hc hcr hS (lyb l c) 0 5000 (ah_wI τ1 268 c (nI 0)) (by omega) (by omega) ((g.trans (e2.mono (fun a j z => Or.inl z))).wI (Or.inr ⟨by omega, by omega, by omega⟩)) hL1.w3
    refine ⟨τ', ?_, k2, k3⟩
    show f_X12_fixes_36_b _ _ _ _ _ = _
    unfold f_X12_fixes_36_b f_X12_fixes_58
    simp only [to_bq, l_0, l_1, l_2, l_3, l_4, l_5, l_6, l_7, l_8, l_9, l_10, l_11, l_12, l_13, l_14, l_15, l_16, l_17, l_18, l_19, l_20, l_21, l_22, l_23, l_24, l_25, l_26, l_27, l_28, l_29, l_30, l_31, l_32, l_40, l_41, l_42, l_43, l_44, l_45, l_46, l_47, l_48, l_49, l_50, l_51, l_52, l_53, l_54, l_55, l_56, l_57, l_58, l_59, l_60, l_61, l_62, l_63, l_64, l_72, l_97, l_99, l_100, l_104, l_120, l_122, l_128, l_140, l_255, l_256, l_257, l_258, l_260, l_261, l_262, l_364, l_680, l_700, l_701, l_840, l_999, l_1023, l_1024, l_9999, l_10000, l_1000000, lm]
    rw [e1, bq_n]
    refine (if_pos hc0).trans ?_
    simp (disch := first | (with_reducible assumption) | omega | exact ⟨by omega, by omega⟩ | ((with_reducible first | apply Wf.wI | apply Wf.wL | apply Wf.fL | apply Wf.fI | apply Wf.fr); (repeat (with_reducible first | assumption | apply Wf.wI | apply Wf.wL | apply Wf.fL | apply Wf.fI | apply Wf.fr)))) only [ck_225, gI_225, gL_225, pI_225, pZ0_225, pZ1_225, pL_225, gR_225_1, gR_225_3, gR_225_4, gR_225_5, gR_225_6, gR_225_7, gR_225_8, gR_225_9, gR_225_10, gR_225_11, gR_225_12, gR_225_13, gR_225_14, gR_225_15, gR_225_16, gR_225_17, gR_225_18, gR_225_19, gR_225_20, gR_225_21, gR_225_35, gR_225_36, gR_225_38, gR_225_39, gR_225_40, gR_225_41, gR_225_43, gR_225_44, gR_225_45, gR_225_48, gR_225_49, gR_225_50, gR_225_51, gR_225_53, gR_225_54, gR_225_55, gR_225_56, gR_225_58, gR_225_59, gR_225_60, gR_225_61, gR_225_62, gR_225_63, gR_225_66, gR_225_67, aI_268, sI_268, len_268, bq_n, bd_s, mp_s, rz_0, rz_1, bI_rz, k1]
  | succ i ih =>
    intro b fu τ hb hf g hL
    obtain ⟨fu, rfl⟩ : ∃ q, fu = q + 1 := ⟨fu - 1, by omega⟩
    obtain ⟨τ1, e1, e2, e3⟩ := LF.cmp (x := x) hL x3 x4
    have hL1 : LF τ1 D st (upF F1 c (nI (lyw l c))) (upF F2 c (nI b)) F3 dp := LsC.fr hL e2
    have hW1 := hL1.1.w
    have v := (hL1.fx hc).2.1
    rw [upF_e] at v
    have hne : ¬ lg_cmp (iL (lv (topF D st (upF F1 c (nI (lyw l c))) (upF F2 c (nI b)) F3))) (iL (x.1 : Int)) = nI 0 := by
      intro z
      obtain ⟨y, hy, hy2⟩ := e3.mp z
      refine fix_ne x1 x2 x5 x6 hc hcr (fun o ho hor => ?_) (fun w a b' hw ha hb' f1 f2 f3 => ?_) hy hy2
      · rw [upF_o (by omega), upF_o (by omega)]; exact hS.1 o ho hor
      · rw [upF_e] at f1 f2
        have := nI_fx (by omega) (by omega) f1
        have := nI_fx (by omega) (by omega) f2
        unfold cde
        omega
    have he : f_X12_fixes_36 (fu + 1) 225 (nI c) (iL (x.1 : Int)) τ = f_X12_fixes_36 fu 225 (nI c) (iL (x.1 : Int)) (ah_wI τ1 267 c (nI (b + 1))) := by
      show f_X12_fixes_36_b _ _ _ _ _ = _
      unfold f_X12_fixes_36_b
      simp only [to_bq, l_0, l_1, l_2, l_3, l_4, l_5, l_6, l_7, l_8, l_9, l_10, l_11, l_12, l_13, l_14, l_15, l_16, l_17, l_18, l_19, l_20, l_21, l_22, l_23, l_24, l_25, l_26, l_27, l_28, l_29, l_30, l_31, l_32, l_40, l_41, l_42, l_43, l_44, l_45, l_46, l_47, l_48, l_49, l_50, l_51, l_52, l_53, l_54, l_55, l_56, l_57, l_58, l_59, l_60, l_61, l_62, l_63, l_64, l_72, l_97, l_99, l_100, l_104, l_120, l_122, l_128, l_140, l_255, l_256, l_257, l_258, l_260, l_261, l_262, l_364, l_680, l_700, l_701, l_840, l_999, l_1023, l_1024, l_9999, l_10000, l_1000000, lm]
      rw [e1, bq_n]
      refine (if_neg hne).trans ?_
      simp (disch := first | (with_reducible assumption) | omega | exact ⟨by omega, by omega⟩ | ((with_reducible first | apply Wf.wI | apply Wf.wL | apply Wf.fL | apply Wf.fI | apply Wf.fr); (repeat (with_reducible first | assumption | apply Wf.wI | apply Wf.wL | apply Wf.fL | apply Wf.fI | apply Wf.fr)))) only [ck_225, gI_225, gL_225, pI_225, pZ0_225, pZ1_225, pL_225, gR_225_1, gR_225_3, gR_225_4, gR_225_5, gR_225_6, gR_225_7, gR_225_8, gR_225_9, gR_225_10, gR_225_11, gR_225_12, gR_225_13, gR_225_14, gR_225_15, gR_225_16, gR_225_17, gR_225_18, gR_225_19, gR_225_20, gR_225_21, gR_225_35, gR_225_36, gR_225_38, gR_225_39, gR_225_40, gR_225_41, gR_225_43, gR_225_44, gR_225_45, gR_225_48, gR_225_49, gR_225_50, gR_225_51, gR_225_53, gR_225_54, gR_225_55, gR_225_56, gR_225_58, gR_225_59, gR_225_60, gR_225_61, gR_225_62, gR_225_63, gR_225_66, gR_225_67, aI_267, sI_267, len_267, bq_n, bd_s, mp_s, rz_0, rz_1, bI_rz, zadd, v]
    rw [he]
    refine ih (b + 1) fu _ (by omega) (by omega) ((g.trans (e2.mono (fun a j z => Or.inl z))).wI (Or.inr ⟨by omega, by omega, by omega⟩)) ?_
    have := hL1.w2 (c := c) (v := nI (b + 1))
    rw [upF_u] at this
    exact this
theorem m_fx7 (hx : FxH D m st l x) (hc : c < nC D) (hcr : c ≠ riv D) (hS : FxS D l F1 F2 F3 c) : ∀ i b fu τ, b + i = lyw l c → i < fu → Fr (Xfx (nC D)) σ τ → LF τ D st (upF F1 c (nI b)) F2 F3 dp → ∃ τ', f_X12_fixes_7 fu 225 (nI c) (iL (x.1 : Int)) τ = some τ' ∧ Fr (Xfx (nC D)) σ τ' ∧ LF τ' D st (upF F1 c (nI (lyw l c))) (upF F2 c (nI (lya l c))) (upF F3 c (nI (lyb l c))) dp := by
  obtain ⟨x1, x2, x3, x4, x5, x6⟩ := id hx
  have b7 := x1.qc7
  have b4 := x1.qp4
  have b12 := x1.qmc12
  obtain ⟨c1, c2, c3, -⟩ := LyT_in x1 x2 x6 hc hcr
  intro i
  induction i with
  | zero =>
    intro b fu τ hb hf g hL
    obtain ⟨fu, rfl⟩ : ∃ q, fu = q + 1 := ⟨fu - 1, by omega⟩
    obtain ⟨τ1, e1, e2, e3⟩ := LF.cmp (x := x) hL x3 x4
    have hc0 := e3.mpr (fix_eq x1 x2 x5 x6 (fun o ho hor => by
      by_cases q : o = c
      · subst q
        exact ⟨Or.inr (by rw [upF_e, show b = lyw l o by omega]), (hS.cp o hor).2.1, (hS.cp o hor).2.2⟩
      · have := hS.cp o hor
        unfold cpt
        rw [upF_o q]; exact this))
    have hL1 : LF τ1 D st (upF F1 c (nI (lyw l c))) F2 F3 dp := by rw [← show b = lyw l c by omega]; exact LsC.fr hL e2
    have hW1 := hL1.1.w
    obtain ⟨τ', k1, k2, k3⟩ := m_fx36 hx hc hcr hS (lya l c) 0 5000 (ah_wI τ1 267 c (nI 0)) (by omega) (by omega) ((g.trans (e2.mono (fun a j z => Or.inl z))).wI (Or.inr ⟨by omega, by omega, by omega⟩)) hL1.w2
    refine ⟨τ', ?_, k2, k3⟩
    show f_X12_fixes_7_b _ _ _ _ _ = _
    unfold f_X12_fixes_7_b f_X12_fixes_29
    simp only [to_bq, l_0, l_1, l_2, l_3, l_4, l_5, l_6, l_7, l_8, l_9, l_10, l_11, l_12, l_13, l_14, l_15, l_16, l_17, l_18, l_19, l_20, l_21, l_22, l_23, l_24, l_25, l_26, l_27, l_28, l_29, l_30, l_31, l_32, l_40, l_41, l_42, l_43, l_44, l_45, l_46, l_47, l_48, l_49, l_50, l_51, l_52, l_53, l_54, l_55, l_56, l_57, l_58, l_59, l_60, l_61, l_62, l_63, l_64, l_72, l_97, l_99, l_100, l_104, l_120, l_122, l_128, l_140, l_255, l_256, l_257, l_258, l_260, l_261, l_262, l_364, l_680, l_700, l_701, l_840, l_999, l_1023, l_1024, l_9999, l_10000, l_1000000, lm]
    rw [e1, bq_n]
    refine (if_pos hc0).trans ?_
    simp (disch := first | (with_reducible assumption) | omega | exact ⟨by omega, by omega⟩ | ((with_reducible first | apply Wf.wI | apply Wf.wL | apply Wf.fL | apply Wf.fI | apply Wf.fr); (repeat (with_reducible first | assumption | apply Wf.wI | apply Wf.wL | apply Wf.fL | apply Wf.fI | apply Wf.fr)))) only [ck_225, gI_225, gL_225, pI_225, pZ0_225, pZ1_225, pL_225, gR_225_1, gR_225_3, gR_225_4, gR_225_5, gR_225_6, gR_225_7, gR_225_8, gR_225_9, gR_225_10, gR_225_11, gR_225_12, gR_225_13, gR_225_14, gR_225_15, gR_225_16, gR_225_17, gR_225_18, gR_225_19, gR_225_20, gR_225_21, gR_225_35, gR_225_36, gR_225_38, gR_225_39, gR_225_40, gR_225_41, gR_225_43, gR_225_44, gR_225_45, gR_225_48, gR_225_49, gR_225_50, gR_225_51, gR_225_53, gR_225_54, gR_225_55, gR_225_56, gR_225_58, gR_225_59, gR_225_60, gR_225_61, gR_225_62, gR_225_63, gR_225_66, gR_225_67, aI_267, sI_267, len_267, bq_n, bd_s, mp_s, rz_0, rz_1, bI_rz, k1]
  | succ i ih =>
    intro b fu τ hb hf g hL
    obtain ⟨fu, rfl⟩ : ∃ q, fu = q + 1 := ⟨fu - 1, by omega⟩
    obtain ⟨τ1, e1, e2, e3⟩ := LF.cmp (x := x) hL x3 x4
    have hL1 : LF τ1 D st (upF F1 c (nI b)) F2 F3 dp := LsC.fr hL e2
    have hW1 := hL1.1.w
    have v := (hL1.fx hc).1
    rw [upF_e] at v
    have hne : ¬ lg_cmp (iL (lv (topF D st (upF F1 c (nI b)) F2 F3))) (iL (x.1 : Int)) = nI 0 := by
      intro z
      obtain ⟨y, hy, hy2⟩ := e3.mp z
      refine fix_ne x1 x2 x5 x6 hc hcr (fun o ho hor => ?_) (fun w a b' hw ha hb' f1 f2 f3 => ?_) hy hy2
      · rw [upF_o (by omega)]; exact hS.1 o ho hor
      · rw [upF_e] at f1
        have := nI_fx (by omega) (by omega) f1
        unfold cde
        omega
    have he : f_X12_fixes_7 (fu + 1) 225 (nI c) (iL (x.1 : Int)) τ = f_X12_fixes_7 fu 225 (nI c) (iL (x.1 : Int)) (ah_wI τ1 266 c (nI (b + 1))) := by
      show f_X12_fixes_7_b _ _ _ _ _ = _
      unfold f_X12_fixes_7_b
      simp only [to_bq, l_0, l_1, l_2, l_3, l_4, l_5, l_6, l_7, l_8, l_9, l_10, l_11, l_12, l_13, l_14, l_15, l_16, l_17, l_18, l_19, l_20, l_21, l_22, l_23, l_24, l_25, l_26, l_27, l_28, l_29, l_30, l_31, l_32, l_40, l_41, l_42, l_43, l_44, l_45, l_46, l_47, l_48, l_49, l_50, l_51, l_52, l_53, l_54, l_55, l_56, l_57, l_58, l_59, l_60, l_61, l_62, l_63, l_64, l_72, l_97, l_99, l_100, l_104, l_120, l_122, l_128, l_140, l_255, l_256, l_257, l_258, l_260, l_261, l_262, l_364, l_680, l_700, l_701, l_840, l_999, l_1023, l_1024, l_9999, l_10000, l_1000000, lm]
      rw [e1, bq_n]
      refine (if_neg hne).trans ?_
      simp (disch := first | (with_reducible assumption) | omega | exact ⟨by omega, by omega⟩ | ((with_reducible first | apply Wf.wI | apply Wf.wL | apply Wf.fL | apply Wf.fI | apply Wf.fr); (repeat (with_reducible first | assumption | apply Wf.wI | apply Wf.wL | apply Wf.fL | apply Wf.fI | apply Wf.fr)))) only [ck_225, gI_225, gL_225, pI_225, pZ0_225, pZ1_225, pL_225, gR_225_1, gR_225_3, gR_225_4, gR_225_5, gR_225_6, gR_225_7, gR_225_8, gR_225_9, gR_225_10, gR_225_11, gR_225_12, gR_225_13, gR_225_14, gR_225_15, gR_225_16, gR_225_17, gR_225_18, gR_225_19, gR_225_20, gR_225_21, gR_225_35, gR_225_36, gR_225_38, gR_225_39, gR_225_40, gR_225_41, gR_225_43, gR_225_44, gR_225_45, gR_225_48, gR_225_49, gR_225_50, gR_225_51, gR_225_53, gR_225_54, gR_225_55, gR_225_56, gR_225_58, gR_225_59, gR_225_60, gR_225_61, gR_225_62, gR_225_63, gR_225_66, gR_225_67, aI_266, sI_266, len_266, bq_n, bd_s, mp_s, rz_0, rz_1, bI_rz, zadd, v]
    rw [he]
    refine ih (b + 1) fu _ (by omega) (by omega) ((g.trans (e2.mono (fun a j z => Or.inl z))).wI (Or.inr ⟨by omega, by omega, by omega⟩)) ?_
    have := hL1.w1 (c := c) (v := nI (b + 1))
    rw [upF_u] at this
    exact this
theorem m_fixes (hx : FxH D m st l x) (hc : c < nC D) (hcr : c ≠ riv D) (hS : FxS D l F1 F2 F3 c) (hL : LF σ D st F1 F2 F3 dp) : ∃ τ, f_X12_fixes 225 (nI c) (iL (x.1 : Int)) σ = some τ ∧ Fr (Xfx (nC D)) σ τ ∧ ∃ G1 G2 G3, LF τ D st G1 G2 G3 dp ∧ FxS D l G1 G2 G3 (c + 1) := by
  have b7 := hx.1.qc7
  have b4 := hx.1.qp4
  obtain ⟨c1, c2, c3, -⟩ := LyT_in hx.1 hx.2.1 hx.2.2.2.2.2 hc hcr
  have hW := hL.1.w
  obtain ⟨τ, k1, k2, k3⟩ := m_fx7 (σ := σ) hx hc hcr hS (lyw l c) 0 5000 (ah_wI σ 266 c (nI 0)) (by omega) (by omega) (Fr.rfl.wI (Or.inr ⟨by omega, by omega, by omega⟩)) hL.w1
  refine ⟨τ, ?_, k2, _, _, _, k3, fun o ho hor => ?_, fun o ho => ?_⟩
  · unfold f_X12_fixes f_X12_fixes_0
    simp only [to_bq, l_0, l_1, l_2, l_3, l_4, l_5, l_6, l_7, l_8, l_9, l_10, l_11, l_12, l_13, l_14, l_15, l_16, l_17, l_18, l_19, l_20, l_21, l_22, l_23, l_24, l_25, l_26, l_27, l_28, l_29, l_30, l_31, l_32, l_40, l_41, l_42, l_43, l_44, l_45, l_46, l_47, l_48, l_49, l_50, l_51, l_52, l_53, l_54, l_55, l_56, l_57, l_58, l_59, l_60, l_61, l_62, l_63, l_64, l_72, l_97, l_99, l_100, l_104, l_120, l_122, l_128, l_140, l_255, l_256, l_257, l_258, l_260, l_261, l_262, l_364, l_680, l_700, l_701, l_840, l_999, l_1023, l_1024, l_9999, l_10000, l_1000000, lm]
    simp (disch := first | (with_reducible assumption) | omega | exact ⟨by omega, by omega⟩ | ((with_reducible first | apply Wf.wI | apply Wf.wL | apply Wf.fL | apply Wf.fI | apply Wf.fr); (repeat (with_reducible first | assumption | apply Wf.wI | apply Wf.wL | apply Wf.fL | apply Wf.fI | apply Wf.fr)))) only [ck_225, gI_225, gL_225, pI_225, pZ0_225, pZ1_225, pL_225, gR_225_1, gR_225_3, gR_225_4, gR_225_5, gR_225_6, gR_225_7, gR_225_8, gR_225_9, gR_225_10, gR_225_11, gR_225_12, gR_225_13, gR_225_14, gR_225_15, gR_225_16, gR_225_17, gR_225_18, gR_225_19, gR_225_20, gR_225_21, gR_225_35, gR_225_36, gR_225_38, gR_225_39, gR_225_40, gR_225_41, gR_225_43, gR_225_44, gR_225_45, gR_225_48, gR_225_49, gR_225_50, gR_225_51, gR_225_53, gR_225_54, gR_225_55, gR_225_56, gR_225_58, gR_225_59, gR_225_60, gR_225_61, gR_225_62, gR_225_63, gR_225_66, gR_225_67, aI_266, sI_266, len_266, bq_n, bd_s, mp_s, rz_0, rz_1, bI_rz, k1]
  · by_cases q : o = c
    · subst q
      exact ⟨upF_e, upF_e, upF_e⟩
    · rw [upF_o q, upF_o q, upF_o q]; exact hS.1 o (by omega) hor
  · have q : o ≠ c := fun z => by
      rcases ho with ho | ho
      · omega
      · exact hcr (z.symm.trans ho)
    rw [upF_o q, upF_o q, upF_o q]; exact hS.2 o (by omega)
end
