/-! THE REFERENCE: the cheapest of a tree, whole -/
def OrS (D : DD) (m : Nat) (st : Nat → Option Nat) : Prop := OrP D m (riv D) st ∧ ∀ c, nC D ≤ c → st c = none
/-- the streets of a tree, to the river -/
noncomputable def ost (D : DD) (m : Nat) : Nat → Option Nat := @dite _ (∃ st, OrS D m st) (Classical.propDecidable _) (fun h => Classical.choose h) (fun _ => fun _ => none)
theorem ost_eq {D : DD} {m : Nat} {st : Nat → Option Nat} (ht : MT D) (hm : TrQ D m) (h : OrS D m st) : st = ost D m := by
  have hex : ∃ st, OrS D m st := ⟨st, h⟩
  have e : ost D m = Classical.choose hex := by unfold ost; rw [dif_pos hex]
  have h2 := Classical.choose_spec hex
  rw [e]
  funext c
  by_cases q : c < nC D
  · exact or_uniq ht hm.1 hm.2.1 h.1 h2.1 c q
  · rw [h.2 c (by omega), h2.2 c (by omega)]
def kyD (D : DD) (c w a b : Nat) : Nat := (w * 256 + a * 16 + b) * 2 ^ (10 * (5 - (if riv D < c then c - 1 else c)))
noncomputable def gq (D : DD) (st : Nat → Option Nat) (c : Nat) : Int := ((gmx D st plain c : Nat) : Int)
noncomputable def dpD (D : DD) (st : Nat → Option Nat) (F1 F2 F3 : Nat → Int32) : DPr := (nC D, mc D, nx D st, own D st (gq D st) F1 F2 F3 (kyD D), pmv D (gq D st))
def noF : Nat → Int32 := fun _ => mI 1
/-- the least cost of a tree -/
noncomputable def cpv (D : DD) (m : Nat) : VV := if D 227 4 = mI 1 then none else topT D (dpD D (ost D m) noF noF noF) (Tw (dpD D (ost D m) noF noF noF) D)
theorem dpD_q (D : DD) (st : Nat → Option Nat) (F1 F2 F3 : Nat → Int32) : Pq (dpD D st F1 F2 F3) D st (gq D st) ∧ dpo (dpD D st F1 F2 F3) = own D st (gq D st) F1 F2 F3 (kyD D) := ⟨⟨⟨rfl, rfl⟩, rfl, rfl⟩, rfl⟩
def Xcq (a j : Nat) : Prop := Xq a j ∧ ¬ (a = 225 ∧ (j = 64 ∨ j = 65))
section
variable {σ : ah_H} {D : DD} {m : Nat}
theorem m_cheapestOf (h : MInv σ D) (hm : TrQ D m) : ∃ τ, f_X12_cheapestOf 225 (nI m) σ = some (iL (lv (cpv D m)), τ) ∧ Fr Xcq σ τ ∧ (D 227 4 ≠ mI 1 → ∃ dp, LsC τ D (ost D m) (dpD D (ost D m) noF noF noF) (gq D (ost D m)) noF noF noF (kyD D) (riv D) dp) := by
  have hb := h.bd
  have hW := h.w
  have hrv := rd_riv h
  unfold f_X12_cheapestOf f_X12_cheapestOf_0
  simp only [to_bq, l_0, l_1, l_2, l_3, l_4, l_5, l_6, l_7, l_8, l_9, l_10, l_11, l_12, l_13, l_14, l_15, l_16, l_17, l_18, l_19, l_20, l_21, l_22, l_23, l_24, l_25, l_26, l_27, l_28, l_29, l_30, l_31, l_32, l_40, l_41, l_42, l_43, l_44, l_45, l_46, l_47, l_48, l_49, l_50, l_51, l_52, l_53, l_54, l_55, l_56, l_57, l_58, l_59, l_60, l_61, l_62, l_63, l_64, l_72, l_97, l_99, l_100, l_104, l_120, l_122, l_128, l_140, l_255, l_256, l_257, l_258, l_260, l_261, l_262, l_364, l_680, l_700, l_701, l_840, l_999, l_1023, l_1024, l_9999, l_10000, l_1000000, lm]
  simp (disch := first | (with_reducible assumption) | omega | exact ⟨by omega, by omega⟩ | ((with_reducible first | apply Wf.wI | apply Wf.wL | apply Wf.fL | apply Wf.fI | apply Wf.fr); (repeat (with_reducible first | assumption | apply Wf.wI | apply Wf.wL | apply Wf.fL | apply Wf.fI | apply Wf.fr)))) only [ck_225, gI_225, gL_225, pI_225, pZ0_225, pZ1_225, pL_225, gR_225_1, gR_225_3, gR_225_4, gR_225_5, gR_225_6, gR_225_7, gR_225_8, gR_225_9, gR_225_10, gR_225_11, gR_225_12, gR_225_13, gR_225_14, gR_225_15, gR_225_16, gR_225_17, gR_225_18, gR_225_19, gR_225_20, gR_225_21, gR_225_35, gR_225_36, gR_225_38, gR_225_39, gR_225_40, gR_225_41, gR_225_43, gR_225_44, gR_225_45, gR_225_48, gR_225_49, gR_225_50, gR_225_51, gR_225_53, gR_225_54, gR_225_55, gR_225_56, gR_225_58, gR_225_59, gR_225_60, gR_225_61, gR_225_62, gR_225_63, gR_225_66, gR_225_67, bq_n, bd_s, mp_s, rz_0, rz_1, bI_rz, if_true, if_false, ite_true, ite_false, reduceIte, not_true, not_false, and_true, true_and, and_false, false_and, or_true, true_or, or_false, false_or, eq_self, aI_227, hrv, q_4000000000000000000]
  by_cases q : D 227 4 = mI 1
  · rw [if_pos q]
    refine ⟨σ, ?_, Fr.rfl, fun z => absurd q z⟩
    unfold cpv
    rw [if_pos q]; rfl
  rw [if_neg q]
  obtain ⟨r1, r2, r3, r4⟩ := h.t.rv q
  have hm2 : m < 2147483648 := Nat.lt_of_lt_of_le hm.1 (Nat.le_trans (Nat.pow_le_pow_right (by omega) hb.2.1) (by decide))
  -- net 1
  have fA : Fr Xq σ (ah_wI σ 225 42 (nI 1)) := Fr.q0 (by omega)
  rw [m_ch23 7 0 5000 _ (by omega) (by omega) (hW.wI _ _ _)]
  have fB : Fr Xq σ (ah_fI (ah_wI σ 225 42 (nI 1)) 248 (7 + 0) 14 (mI 1)) := fA.fI (fun j _ _ => by unfold Xq; omega)
  have fB' : Fr Xcq σ (ah_fI (ah_wI σ 225 42 (nI 1)) 248 (7 + 0) 14 (mI 1)) := ((Fr.rfl (X := Xcq) (σ := σ)).wI (by unfold Xcq Xq; omega)).fI (fun j _ _ => by unfold Xcq Xq; omega)
  have n42 : ah_I (ah_fI (ah_wI σ 225 42 (nI 1)) 248 (7 + 0) 14 (mI 1)) 225 42 = nI 1 := by rw [I_fI, if_neg (by omega), rI_eq]
  have n248 : ∀ c, c < 7 → ah_I (ah_fI (ah_wI σ 225 42 (nI 1)) 248 (7 + 0) 14 (mI 1)) 248 (7 + c) = mI 1 := fun c hc => by rw [I_fI, if_pos ⟨rfl, by omega, by omega⟩]
  generalize ah_fI (ah_wI σ 225 42 (nI 1)) 248 (7 + 0) 14 (mI 1) = τ at *
  have hτ := h.q fB
  unfold f_X12_cheapestOf_45
  simp only [to_bq, l_0, l_1, l_2, l_3, l_4, l_5, l_6, l_7, l_8, l_9, l_10, l_11, l_12, l_13, l_14, l_15, l_16, l_17, l_18, l_19, l_20, l_21, l_22, l_23, l_24, l_25, l_26, l_27, l_28, l_29, l_30, l_31, l_32, l_40, l_41, l_42, l_43, l_44, l_45, l_46, l_47, l_48, l_49, l_50, l_51, l_52, l_53, l_54, l_55, l_56, l_57, l_58, l_59, l_60, l_61, l_62, l_63, l_64, l_72, l_97, l_99, l_100, l_104, l_120, l_122, l_128, l_140, l_255, l_256, l_257, l_258, l_260, l_261, l_262, l_364, l_680, l_700, l_701, l_840, l_999, l_1023, l_1024, l_9999, l_10000, l_1000000, lm]
  obtain ⟨τ2, fa, st, e1, e2, e3⟩ := m_joinsFrom (m := m) (r := riv D) hτ hm2 r2
  have f2 : Fr Xjf τ τ2 := e2.1
  have h2 := e2.mi hτ
  obtain ⟨o1, o2⟩ := JS.or hτ r2 e2 e3 hm
  have hos : OrS D m st := ⟨o1, fun c hc => e2.2.1.2.2.2.2.1 c (e2.2.1.2.2.2.1 c hc)⟩
  have hst := ost_eq h.t hm hos
  have hS : StR τ2 D 1 st := by
    refine ⟨by rw [f2.I (by unfold Xjf; omega)]; exact n42, by omega, fun c hc => ⟨?_, fun s hs => ?_⟩⟩
    · rw [show 7 * 1 + c = 7 + c by omega, e2.2.2.2 c (by omega)]
      cases e : st c with
      | none => exact n248 c (by omega)
      | some s => rfl
    · by_cases z : c = riv D
      · rw [z, o1.2.1] at hs; cases hs
      · obtain ⟨s', z1, z2, -⟩ := o1.1 c hc z
        rw [hs] at z1; cases z1; exact z2
  rw [r1, e1, bq_n]
  obtain ⟨ρ, k1, k2, k3⟩ := m_run0 h2 hS
  show ∃ τ, bq _ _ (f_X12_run 225 (nI 0) τ2) = _ ∧ _
  rw [k1, bq_n]
  have h3 := h2.q (k2.mono Xr_q)
  have hq5 : ∀ a j, (Xg a j ∨ a = 265) → Xq a j := fun a j z => z.elim (Xg_q a j) (fun z => by unfold Xq; omega)
  obtain ⟨τ3, j1, j2, j3⟩ := m_ch59 h3 k3 (nC D) 0 5000 ρ (by omega) (by omega) Fr.rfl (fun c hc => by omega)
  rw [j1]
  have h4 := h3.q (j2.mono hq5)
  unfold f_X12_cheapestOf_86
  simp only [to_bq, l_0, l_1, l_2, l_3, l_4, l_5, l_6, l_7, l_8, l_9, l_10, l_11, l_12, l_13, l_14, l_15, l_16, l_17, l_18, l_19, l_20, l_21, l_22, l_23, l_24, l_25, l_26, l_27, l_28, l_29, l_30, l_31, l_32, l_40, l_41, l_42, l_43, l_44, l_45, l_46, l_47, l_48, l_49, l_50, l_51, l_52, l_53, l_54, l_55, l_56, l_57, l_58, l_59, l_60, l_61, l_62, l_63, l_64, l_72, l_97, l_99, l_100, l_104, l_120, l_122, l_128, l_140, l_255, l_256, l_257, l_258, l_260, l_261, l_262, l_364, l_680, l_700, l_701, l_840, l_999, l_1023, l_1024, l_9999, l_10000, l_1000000, lm]
  rw [m_ch88 364 0 5000 τ3 (by omega) (by omega) h4.w]
  unfold f_X12_cheapestOf_112
  simp only [to_bq, l_0, l_1, l_2, l_3, l_4, l_5, l_6, l_7, l_8, l_9, l_10, l_11, l_12, l_13, l_14, l_15, l_16, l_17, l_18, l_19, l_20, l_21, l_22, l_23, l_24, l_25, l_26, l_27, l_28, l_29, l_30, l_31, l_32, l_40, l_41, l_42, l_43, l_44, l_45, l_46, l_47, l_48, l_49, l_50, l_51, l_52, l_53, l_54, l_55, l_56, l_57, l_58, l_59, l_60, l_61, l_62, l_63, l_64, l_72, l_97, l_99, l_100, l_104, l_120, l_122, l_128, l_140, l_255, l_256, l_257, l_258, l_260, l_261, l_262, l_364, l_680, l_700, l_701, l_840, l_999, l_1023, l_1024, l_9999, l_10000, l_1000000, lm]
  have fL : Fr (fun a _ => a = 264) τ3 (ah_fL τ3 264 0 364 (iL 4000000000000000000)) := (Fr.rfl (X := fun a _ => a = 264) (σ := τ3)).fL (fun j _ _ => rfl)
  generalize ah_fL τ3 264 0 364 (iL 4000000000000000000) = τ4 at *
  have h5 := h4.q (fL.mono (fun a j z => by unfold Xq; omega))
  obtain ⟨τ5, i1, i2, i3⟩ := m_free h5.w
  have h6 := h5.q (i2.mono (fun a j z => by unfold Xq; omega))
  rw [i1, bq_n]
  -- one frame from the net on
  have fT : Fr (fun a j => Xr a j ∨ Xg a j ∨ 264 ≤ a ∧ a ≤ 268) τ2 τ5 := (((k2.mono (fun a j z => Or.inl z)).trans (j2.mono (fun a j z => z.elim (fun z => Or.inr (Or.inl z)) (fun z => Or.inr (Or.inr ⟨by omega, by omega⟩))))).trans (fL.mono (fun a j z => Or.inr (Or.inr ⟨by omega, by omega⟩)))).trans (i2.mono (fun a j z => Or.inr (Or.inr ⟨by omega, by omega⟩)))
  have hS5 : StR τ5 D 1 st := hS.fr fT hb.1 (by unfold Xr Xg; omega) (fun c _ => by unfold Xr Xg; omega)
  have ls : LsC τ5 D st (dpD D st noF noF noF) (gq D st) noF noF noF (kyD D) (riv D) (fun c => (fa c).getD 0) := by
    refine ⟨h6, hS5, (dpD_q D st noF noF noF).1, (dpD_q D st noF noF noF).2, r2, fun c hc hcr => ?_, o1.2.1, fun c hc => ⟨?_, ?_, ?_⟩, fun c hc => i3 c (by omega), fun c hc => ?_⟩
    · obtain ⟨s, z1, -⟩ := o1.1 c hc hcr
      exact ⟨s, z1⟩
    · rw [i2.L (by omega), fL.L (by omega)]
      exact j3 c hc
    · unfold gq; omega
    · have := gmx_b (st := st) (cp := plain) h.t hc
      unfold gq; omega
    · obtain ⟨d, d1, d2, d3, d4⟩ := o2 c hc
      rw [fT.I (by unfold Xr Xg; omega), e2.2.2.1 c hc]
      show sv (fa c) = nI ((fa c).getD 0) ∧ (fa c).getD 0 < nC D ∧ ((fa c).getD 0 = 0 ↔ c = riv D) ∧ ∀ k, nx D st c = some k → (fa c).getD 0 = (fa k).getD 0 + 1
      rw [d1]
      refine ⟨rfl, d2, d4, fun k hk => ?_⟩
      have hcr : c ≠ riv D := fun z => by
        rw [z] at hk
        unfold nx at hk
        rw [o1.2.1] at hk
        cases hk
      obtain ⟨s, s1, s2, s3, s4, x, x1, x2⟩ := e2.2.1.2.2.1 c hc hcr d d1
      unfold nx at hk
      rw [s1] at hk
      cases hk
      rw [x2]
      exact x1
  obtain ⟨τ6, g1, g2⟩ := m_leastOf ls q rfl
  rw [g1, bq_n]
  refine ⟨τ6, ?_, ?_, fun _ => ⟨fun c => (fa c).getD 0, ?_⟩⟩
  · unfold cpv
    rw [if_neg q, ← hst]
  · exact ((fB'.trans (f2.mono (fun a j z => by unfold Xjf at z; unfold Xcq Xq; omega))).trans (fT.mono (fun a j z => by unfold Xr Xg at z; unfold Xcq Xq; omega))).trans (g2.mono (fun a j z => by unfold Xlo Xv at z; unfold Xcq Xq; omega))
  · rw [← hst]
    exact ls.fr g2
theorem cpv_b (h : MInv σ D) (hm : TrQ D m) : vb (cpv D m) 9000000000000000 := by
  have hb := h.bd
  unfold cpv
  by_cases q : D 227 4 = mI 1
  · rw [if_pos q]; exact vb_none _
  rw [if_neg q]
  obtain ⟨τ, -, -, hl⟩ := m_cheapestOf h hm
  obtain ⟨dp, hl⟩ := hl q
  unfold topT
  by_cases q1 : nC D = 1
  · rw [if_pos q1]; intro x hx; cases hx; exact Nat.zero_le _
  rw [if_neg q1]
  by_cases q2 : hgt D (riv D) < lev D
  · rw [if_pos q2]; exact vb_none _
  rw [if_neg q2]
  refine vb_mono (vb_sm (g := fun _ => 1000000000000000) _ (fun o ho => ?_)) (Nat.le_trans (sm_k _) ?_)
  · by_cases z : dpx (dpD D (ost D m) noF noF noF) o = some (riv D)
    · rw [if_pos z]
      exact vb_mn _ (fun v hv => vb_mn _ (fun b hb => hl.tb ho v b))
    · rw [if_neg z]; intro x hx; cases hx; exact Nat.zero_le _
  · show nC D * 1000000000000000 ≤ _
    omega
theorem nI_set {x : Int32} (hS : 2 ^ nS D < 2147483648) (h1 : ¬ x < nI 0) (h2 : ¬ nI (2 ^ nS D) ≤ x) : ∃ m, m < 2 ^ nS D ∧ x = nI m := nI_rng hS h1 h2
theorem p2S (ht : MT D) : 2 ^ nS D ≤ 1024 := Nat.le_trans (Nat.pow_le_pow_right (by omega) ht.qs10) (by decide)
/-- what the cheapest of a set is -/
noncomputable def sCheap (D : DD) (x : Int32) : Int64 := if x < nI 0 ∨ nI (2 ^ nS D) ≤ x then iL (-1) else cif (TrQ D (ix x)) (match cpv D (ix x) with
  | none => iL (-2)
  | some y => iL (y.1 : Int)) (iL (-1))
theorem m_cheapest (h : MInv σ D) (x : Int32) : ∃ τ, f_X12_cheapest 225 x σ = some (sCheap D x, τ) ∧ Fr Xq σ τ := by
  have hW := h.w
  have hq := h.q (σ := σ) (Fr.q0 (j := 0) (x := nI 0) (by omega))
  have f0 : Fr Xq σ (ah_wI σ 225 0 (nI 0)) := Fr.q0 (by omega)
  have h2 := p2S h.t
  unfold f_X12_cheapest f_X12_cheapest_0 sCheap
  simp only [to_bq, l_0, l_1, l_2, l_3, l_4, l_5, l_6, l_7, l_8, l_9, l_10, l_11, l_12, l_13, l_14, l_15, l_16, l_17, l_18, l_19, l_20, l_21, l_22, l_23, l_24, l_25, l_26, l_27, l_28, l_29, l_30, l_31, l_32, l_40, l_41, l_42, l_43, l_44, l_45, l_46, l_47, l_48, l_49, l_50, l_51, l_52, l_53, l_54, l_55, l_56, l_57, l_58, l_59, l_60, l_61, l_62, l_63, l_64, l_72, l_97, l_99, l_100, l_104, l_120, l_122, l_128, l_140, l_255, l_256, l_257, l_258, l_260, l_261, l_262, l_364, l_680, l_700, l_701, l_840, l_999, l_1023, l_1024, l_9999, l_10000, l_1000000, lm]
  simp (disch := first | (with_reducible assumption) | omega | exact ⟨by omega, by omega⟩ | ((with_reducible first | apply Wf.wI | apply Wf.wL | apply Wf.fL | apply Wf.fI | apply Wf.fr); (repeat (with_reducible first | assumption | apply Wf.wI | apply Wf.wL | apply Wf.fL | apply Wf.fI | apply Wf.fr)))) only [ck_225, gI_225, gL_225, pI_225, pZ0_225, pZ1_225, pL_225, gR_225_1, gR_225_3, gR_225_4, gR_225_5, gR_225_6, gR_225_7, gR_225_8, gR_225_9, gR_225_10, gR_225_11, gR_225_12, gR_225_13, gR_225_14, gR_225_15, gR_225_16, gR_225_17, gR_225_18, gR_225_19, gR_225_20, gR_225_21, gR_225_35, gR_225_36, gR_225_38, gR_225_39, gR_225_40, gR_225_41, gR_225_43, gR_225_44, gR_225_45, gR_225_48, gR_225_49, gR_225_50, gR_225_51, gR_225_53, gR_225_54, gR_225_55, gR_225_56, gR_225_58, gR_225_59, gR_225_60, gR_225_61, gR_225_62, gR_225_63, gR_225_66, gR_225_67, bq_n, bd_s, mp_s, rz_0, rz_1, bI_rz, q_m1, q_m2, q_4000000000000000000]
  by_cases q : x < nI 0 ∨ nI (2 ^ nS D) ≤ x
  · rw [if_pos q, m_isTree_o hq q, bq_n, if_pos rfl]
    exact ⟨_, rfl, f0⟩
  rw [if_neg q]
  obtain ⟨m, hm, rfl⟩ := nI_set (by omega) (fun z => q (Or.inl z)) (fun z => q (Or.inr z))
  obtain ⟨τ, e1, e2⟩ := m_isTree_n hq hm
  rw [ix_nI (by omega), e1, bq_n]
  have h3 := hq.q (e2.mono Xjf_q)
  by_cases qt : TrQ D m
  · rw [cif_t qt, cI_t qt]
    rw [if_neg (show ¬ (nI 1, τ).1 = nI 0 from (by decide : ¬ nI 1 = nI 0))]
    obtain ⟨τ2, g1, g2, -⟩ := m_cheapestOf h3 qt
    have cb := cpv_b h qt
    have lb := lv_b cb (by decide)
    show ∃ τ', bq _ _ (f_X12_cheapestOf 225 (nI m) τ) = _ ∧ _
    rw [g1, bq_n]
    refine ⟨τ2, ?_, (f0.trans (e2.mono Xjf_q)).trans (g2.mono (fun a j z => z.1))⟩
    show (if lg_cmp (iL (lv (cpv D m))) (iL 4000000000000000000) < nI 0 then _ else _) = _
    cases e : cpv D m with
    | none => rw [if_neg (by decide)]
    | some y =>
      have hy := cb y e
      rw [show lv (some y) = (y.1 : Int) from rfl, if_pos (by rw [cmp_lt ⟨by omega, by omega⟩ ⟨by omega, by omega⟩]; omega)]
  · rw [cif_f qt, cI_f qt, if_pos rfl]
    exact ⟨_, rfl, f0.trans (e2.mono Xjf_q)⟩
end
