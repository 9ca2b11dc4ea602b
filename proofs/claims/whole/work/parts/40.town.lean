/-! THE CLASS: a town, as D says it -/
/-- signs of the class for those of the reference -/
def sgm (v : Nat) : Nat := if v = 43 then 11 else if v = 45 then 12 else if v = 42 then 13 else if v = 47 then 14 else if v = 60 then 5 else if v = 256 then 6 else if v = 61 then 7 else if v = 257 then 8 else if v = 258 then 9 else if v = 62 then 10 else if v = 260 then 4 else if v = 261 then 3 else 2
def knC (so v s o : Int32) : Prop := (so = nI 0 ∧ s = nI 0 ∧ o = v) ∨ (so = nI 1 ∧ s = nI 1 ∧ o = v) ∨ (so = nI 2 ∧ s = nI (sgm (ix v)))
def TF (σ : ah_H) (t : Nat) (D : DD) : Prop := ah_I σ t 0 = nI (nC D) ∧ ah_I σ t 2 = D 227 4 ∧ ah_I σ t 3 = D 227 5 ∧ ah_I σ t 4 = nI (nS D) ∧ ah_I σ t 6 = nI (nP D) ∧ ah_I σ t 8 = nI (nR D) ∧ ah_I σ t 13 = nI (ct D) ∧ ah_I σ (t+31) 0 = nI (lf D) ∧ ah_I σ (t+31) 1 = nI (mf D) ∧ ah_I σ (t+32) 0 = nI (lc D) ∧ ah_I σ (t+32) 1 = nI (mc D) ∧ ah_I σ (t+33) 0 = nI (nK D)
def TRows (σ : ah_H) (t : Nat) (D : DD) : Prop := (∀ c, c < nC D → ah_I σ (t+2+c) 0 = nI (hgt D c) ∧ ah_I σ (t+2+c) 1 = nI (are D c) ∧ ah_I σ (t+2+c) 2 = nI (rck D c) ∧ ah_I σ (t+2+c) 3 = D 228 c)
  ∧ (∀ s, s < nS D → ah_I σ (t+10+s) 0 = nI (sA D s) ∧ ah_I σ (t+10+s) 1 = nI (sB D s) ∧ ah_I σ (t+10+s) 2 = nI (len D s) ∧ ah_I σ (t+10+s) 3 = nI (hrs D s) ∧ ah_I σ (t+10+s) 4 = nI (rsk D s))
  ∧ (∀ p, p < nP D → ah_I σ (t+21+p) 0 = nI (wid D p) ∧ ah_I σ (t+21+p) 1 = nI (pri D p))
  ∧ (∀ r, r < nR D → ah_I σ (t+25) r = D 239 r ∧ ∀ h, h < 6 → ah_I σ (t+27+r) h = nI (if h < rnh D r then rnv D r h else 0))
  ∧ (∀ k, k < 3 → ah_I σ (t+36) k = nI (lfr D k) ∧ ah_I σ (t+37) k = nI (lto D k))
  ∧ (∀ i, i < nK D → knC (D 244 i) (D 245 i) (ah_I σ (t+34) i) (ah_I σ (t+35) i))
/-- the town t tells what D says -/
def TR (σ : ah_H) (t : Nat) (D : DD) : Prop := Tn t ∧ Wf σ ∧ MT D ∧ TF σ t D ∧ TRows σ t D
theorem TF.fr {σ τ : ah_H} {t : Nat} {D : DD} (h : TF σ t D) (e : ∀ a j, t ≤ a → a < t + 38 → ah_I τ a j = ah_I σ a j) : TF τ t D := by
  unfold TF at *
  rw [e t 0 (by omega) (by omega), e t 2 (by omega) (by omega), e t 3 (by omega) (by omega), e t 4 (by omega) (by omega), e t 6 (by omega) (by omega), e t 8 (by omega) (by omega), e t 13 (by omega) (by omega), e (t+31) 0 (by omega) (by omega), e (t+31) 1 (by omega) (by omega), e (t+32) 0 (by omega) (by omega), e (t+32) 1 (by omega) (by omega), e (t+33) 0 (by omega) (by omega)]
  exact h
theorem TRows.fr {σ τ : ah_H} {t : Nat} {D : DD} (h : TRows σ t D) (hd : MT D) (e : ∀ a j, t ≤ a → a < t + 38 → ah_I τ a j = ah_I σ a j) : TRows τ t D := by
  have b1 := hd.qc7
  have b2 := hd.qs10
  have b3 := hd.qp4
  have b4 := hd.qr4
  obtain ⟨h1, h2, h3, h4, h5, h6⟩ := h
  refine ⟨fun c hc => ?_, fun s hs => ?_, fun p hp => ?_, fun r hr => ⟨?_, fun q hq => ?_⟩, fun k hk => ?_, fun i hi => ?_⟩
  · rw [e _ 0 (by omega) (by omega), e _ 1 (by omega) (by omega), e _ 2 (by omega) (by omega), e _ 3 (by omega) (by omega)]; exact h1 c hc
  · rw [e _ 0 (by omega) (by omega), e _ 1 (by omega) (by omega), e _ 2 (by omega) (by omega), e _ 3 (by omega) (by omega), e _ 4 (by omega) (by omega)]; exact h2 s hs
  · rw [e _ 0 (by omega) (by omega), e _ 1 (by omega) (by omega)]; exact h3 p hp
  · rw [e _ r (by omega) (by omega)]; exact (h4 r hr).1
  · rw [e _ q (by omega) (by omega)]; exact (h4 r hr).2 q hq
  · rw [e _ k (by omega) (by omega), e _ k (by omega) (by omega)]; exact h5 k hk
  · rw [e _ i (by omega) (by omega), e _ i (by omega) (by omega)]; exact h6 i hi
theorem TR.fr {X : Nat → Nat → Prop} {σ τ : ah_H} {t : Nat} {D : DD} (h : TR σ t D) (g : Fr X σ τ) (hX : ∀ a j, t ≤ a → a < t + 38 → ¬ X a j) : TR τ t D :=
  ⟨h.1, h.2.1.fr g, h.2.2.1, h.2.2.2.1.fr (fun a j h1 h2 => g.I (hX a j h1 h2)), h.2.2.2.2.fr h.2.2.1 (fun a j h1 h2 => g.I (hX a j h1 h2))⟩
theorem TR.t {σ : ah_H} {u : Nat} {D : DD} (h : TR σ u D) : MT D := h.2.2.1
section
variable {σ : ah_H} {t : Nat} {D : DD} {c s p r i k : Nat}
theorem TR.tn (h : TR σ t D) : Tn t := h.1
theorem TR.w (h : TR σ t D) : Wf σ := h.2.1
theorem tr_C (h : TR σ t D) : ah_I σ t 0 = nI (nC D) := h.2.2.2.1.1
theorem tr_riv (h : TR σ t D) : ah_I σ t 2 = D 227 4 := h.2.2.2.1.2.1
theorem tr_lev (h : TR σ t D) : ah_I σ t 3 = D 227 5 := h.2.2.2.1.2.2.1
theorem tr_S (h : TR σ t D) : ah_I σ t 4 = nI (nS D) := h.2.2.2.1.2.2.2.1
theorem tr_P (h : TR σ t D) : ah_I σ t 6 = nI (nP D) := h.2.2.2.1.2.2.2.2.1
theorem tr_N (h : TR σ t D) : ah_I σ t 8 = nI (nR D) := h.2.2.2.1.2.2.2.2.2.1
theorem tr_ct (h : TR σ t D) : ah_I σ t 13 = nI (ct D) := h.2.2.2.1.2.2.2.2.2.2.1
theorem tr_lf (h : TR σ t D) : ah_I σ (t+31) 0 = nI (lf D) := h.2.2.2.1.2.2.2.2.2.2.2.1
theorem tr_mf (h : TR σ t D) : ah_I σ (t+31) 1 = nI (mf D) := h.2.2.2.1.2.2.2.2.2.2.2.2.1
theorem tr_lc (h : TR σ t D) : ah_I σ (t+32) 0 = nI (lc D) := h.2.2.2.1.2.2.2.2.2.2.2.2.2.1
theorem tr_mc (h : TR σ t D) : ah_I σ (t+32) 1 = nI (mc D) := h.2.2.2.1.2.2.2.2.2.2.2.2.2.2.1
theorem tr_K (h : TR σ t D) : ah_I σ (t+33) 0 = nI (nK D) := h.2.2.2.1.2.2.2.2.2.2.2.2.2.2.2
theorem tr_hgt (h : TR σ t D) (hc : c < nC D) : ah_I σ (t+2+c) 0 = nI (hgt D c) := (h.2.2.2.2.1 c hc).1
theorem tr_are (h : TR σ t D) (hc : c < nC D) : ah_I σ (t+2+c) 1 = nI (are D c) := (h.2.2.2.2.1 c hc).2.1
theorem tr_rck (h : TR σ t D) (hc : c < nC D) : ah_I σ (t+2+c) 2 = nI (rck D c) := (h.2.2.2.2.1 c hc).2.2.1
theorem tr_nm (h : TR σ t D) (hc : c < nC D) : ah_I σ (t+2+c) 3 = D 228 c := (h.2.2.2.2.1 c hc).2.2.2
theorem tr_sA (h : TR σ t D) (hs : s < nS D) : ah_I σ (t+10+s) 0 = nI (sA D s) := (h.2.2.2.2.2.1 s hs).1
theorem tr_sB (h : TR σ t D) (hs : s < nS D) : ah_I σ (t+10+s) 1 = nI (sB D s) := (h.2.2.2.2.2.1 s hs).2.1
theorem tr_len (h : TR σ t D) (hs : s < nS D) : ah_I σ (t+10+s) 2 = nI (len D s) := (h.2.2.2.2.2.1 s hs).2.2.1
theorem tr_hrs (h : TR σ t D) (hs : s < nS D) : ah_I σ (t+10+s) 3 = nI (hrs D s) := (h.2.2.2.2.2.1 s hs).2.2.2.1
theorem tr_rsk (h : TR σ t D) (hs : s < nS D) : ah_I σ (t+10+s) 4 = nI (rsk D s) := (h.2.2.2.2.2.1 s hs).2.2.2.2
theorem tr_wid (h : TR σ t D) (hp : p < nP D) : ah_I σ (t+21+p) 0 = nI (wid D p) := (h.2.2.2.2.2.2.1 p hp).1
theorem tr_pri (h : TR σ t D) (hp : p < nP D) : ah_I σ (t+21+p) 1 = nI (pri D p) := (h.2.2.2.2.2.2.1 p hp).2
theorem tr_rnm (h : TR σ t D) (hr : r < nR D) : ah_I σ (t+25) r = D 239 r := (h.2.2.2.2.2.2.2.1 r hr).1
theorem tr_rnv (h : TR σ t D) (hr : r < nR D) {q : Nat} (hq : q < 6) : ah_I σ (t+27+r) q = nI (if q < rnh D r then rnv D r q else 0) := (h.2.2.2.2.2.2.2.1 r hr).2 q hq
theorem tr_from (h : TR σ t D) (hk : k < 3) : ah_I σ (t+36) k = nI (lfr D k) := (h.2.2.2.2.2.2.2.2.1 k hk).1
theorem tr_to (h : TR σ t D) (hk : k < 3) : ah_I σ (t+37) k = nI (lto D k) := (h.2.2.2.2.2.2.2.2.1 k hk).2
theorem tr_kn (h : TR σ t D) (hi : i < nK D) : knC (D 244 i) (D 245 i) (ah_I σ (t+34) i) (ah_I σ (t+35) i) := h.2.2.2.2.2.2.2.2.2 i hi
theorem TR.bd (h : TR σ t D) : nC D ≤ 7 ∧ nS D ≤ 10 ∧ nP D ≤ 4 ∧ nR D ≤ 4 ∧ nK D ≤ 64 ∧ lf D ≤ 99 ∧ mf D ≤ 99 ∧ lf D ≤ mf D ∧ lc D ≤ 12 ∧ mc D ≤ 12 ∧ lc D ≤ mc D ∧ ct D ≤ 99 := ⟨h.t.qc7, h.t.qs10, h.t.qp4, h.t.qr4, h.t.qk64, h.t.qlf99, h.t.qmf99, h.t.qlmf, h.t.qlc12, h.t.qmc12, h.t.qlmc, h.t.qct99⟩
/-! its small methods -/
theorem c_isCorner' (h : TR σ t D) (x : Int32) : f_X9_isCorner t x σ = some (bI (okC D x), σ) := by
  have hw := h.w
  have ht := h.tn
  unfold f_X9_isCorner f_X9_isCorner_0
  simp (disch := first | (with_reducible assumption) | omega | exact ⟨by omega, by omega⟩ | ((with_reducible first | apply Wf.wI | apply Wf.wL | apply Wf.fr); (repeat (with_reducible first | assumption | apply Wf.wI | apply Wf.wL | apply Wf.fr)))) only [ck_t, gI_t, gL_t, pI_t, pZ0_t, pZ1_t, pL_t, ck_w, gI_w, gL_w, pI_w, pZ0_w, pZ1_w, pL_w, gR_t_1, gR_t_5, gR_t_7, gR_t_9, gR_t_10, gR_t_11, gR_t_12, gR_t_15, gR_w_2, gR_w_3, gR_w_4, gR_w_5, gR_w_6, gR_w_7, aR_crow, aR_srow, aR_prow, aR_rrow, aI_crow, sI_crow, len_crow, aI_srow, sI_srow, len_srow, aI_prow, sI_prow, len_prow, aI_rrow, sI_rrow, len_rrow, aI_t25, sI_t25, len_t25, aI_t31, sI_t31, len_t31, aI_t32, sI_t32, len_t32, aI_t34, sI_t34, len_t34, aI_t35, sI_t35, len_t35, aI_t36, sI_t36, len_t36, aI_t37, sI_t37, len_t37, aL_t38, sL_t38, len_t38, aL_t39, sL_t39, len_t39, l_0, l_1, l_2, l_3, l_4, l_5, l_6, l_7, l_8, l_9, l_10, l_11, l_12, l_13, l_14, l_15, l_16, l_17, l_18, l_19, l_20, l_21, l_22, l_23, l_24, l_25, l_26, l_27, l_28, l_29, l_30, l_31, l_32, l_40, l_41, l_42, l_43, l_44, l_45, l_46, l_47, l_48, l_49, l_50, l_51, l_52, l_53, l_54, l_55, l_56, l_57, l_58, l_59, l_60, l_61, l_62, l_63, l_64, l_72, l_97, l_99, l_100, l_104, l_120, l_122, l_128, l_140, l_255, l_256, l_257, l_258, l_260, l_261, l_262, l_364, l_680, l_700, l_701, l_840, l_999, l_1023, l_1024, l_9999, l_10000, l_1000000, lm, bq_s, bd_s, mp_s, rz_0, rz_1, bI_rz, tr_C h]
  exact bI_two _ _ _
theorem c_isStreet' (h : TR σ t D) (x : Int32) : f_X9_isStreet t x σ = some (bI (okS D x), σ) := by
  have hw := h.w
  have ht := h.tn
  unfold f_X9_isStreet f_X9_isStreet_0
  simp (disch := first | (with_reducible assumption) | omega | exact ⟨by omega, by omega⟩ | ((with_reducible first | apply Wf.wI | apply Wf.wL | apply Wf.fr); (repeat (with_reducible first | assumption | apply Wf.wI | apply Wf.wL | apply Wf.fr)))) only [ck_t, gI_t, gL_t, pI_t, pZ0_t, pZ1_t, pL_t, ck_w, gI_w, gL_w, pI_w, pZ0_w, pZ1_w, pL_w, gR_t_1, gR_t_5, gR_t_7, gR_t_9, gR_t_10, gR_t_11, gR_t_12, gR_t_15, gR_w_2, gR_w_3, gR_w_4, gR_w_5, gR_w_6, gR_w_7, aR_crow, aR_srow, aR_prow, aR_rrow, aI_crow, sI_crow, len_crow, aI_srow, sI_srow, len_srow, aI_prow, sI_prow, len_prow, aI_rrow, sI_rrow, len_rrow, aI_t25, sI_t25, len_t25, aI_t31, sI_t31, len_t31, aI_t32, sI_t32, len_t32, aI_t34, sI_t34, len_t34, aI_t35, sI_t35, len_t35, aI_t36, sI_t36, len_t36, aI_t37, sI_t37, len_t37, aL_t38, sL_t38, len_t38, aL_t39, sL_t39, len_t39, l_0, l_1, l_2, l_3, l_4, l_5, l_6, l_7, l_8, l_9, l_10, l_11, l_12, l_13, l_14, l_15, l_16, l_17, l_18, l_19, l_20, l_21, l_22, l_23, l_24, l_25, l_26, l_27, l_28, l_29, l_30, l_31, l_32, l_40, l_41, l_42, l_43, l_44, l_45, l_46, l_47, l_48, l_49, l_50, l_51, l_52, l_53, l_54, l_55, l_56, l_57, l_58, l_59, l_60, l_61, l_62, l_63, l_64, l_72, l_97, l_99, l_100, l_104, l_120, l_122, l_128, l_140, l_255, l_256, l_257, l_258, l_260, l_261, l_262, l_364, l_680, l_700, l_701, l_840, l_999, l_1023, l_1024, l_9999, l_10000, l_1000000, lm, bq_s, bd_s, mp_s, rz_0, rz_1, bI_rz, tr_S h]
  exact bI_two _ _ _
theorem c_isPipe' (h : TR σ t D) (x : Int32) : f_X9_isPipe t x σ = some (bI (okP D x), σ) := by
  have hw := h.w
  have ht := h.tn
  unfold f_X9_isPipe f_X9_isPipe_0
  simp (disch := first | (with_reducible assumption) | omega | exact ⟨by omega, by omega⟩ | ((with_reducible first | apply Wf.wI | apply Wf.wL | apply Wf.fr); (repeat (with_reducible first | assumption | apply Wf.wI | apply Wf.wL | apply Wf.fr)))) only [ck_t, gI_t, gL_t, pI_t, pZ0_t, pZ1_t, pL_t, ck_w, gI_w, gL_w, pI_w, pZ0_w, pZ1_w, pL_w, gR_t_1, gR_t_5, gR_t_7, gR_t_9, gR_t_10, gR_t_11, gR_t_12, gR_t_15, gR_w_2, gR_w_3, gR_w_4, gR_w_5, gR_w_6, gR_w_7, aR_crow, aR_srow, aR_prow, aR_rrow, aI_crow, sI_crow, len_crow, aI_srow, sI_srow, len_srow, aI_prow, sI_prow, len_prow, aI_rrow, sI_rrow, len_rrow, aI_t25, sI_t25, len_t25, aI_t31, sI_t31, len_t31, aI_t32, sI_t32, len_t32, aI_t34, sI_t34, len_t34, aI_t35, sI_t35, len_t35, aI_t36, sI_t36, len_t36, aI_t37, sI_t37, len_t37, aL_t38, sL_t38, len_t38, aL_t39, sL_t39, len_t39, l_0, l_1, l_2, l_3, l_4, l_5, l_6, l_7, l_8, l_9, l_10, l_11, l_12, l_13, l_14, l_15, l_16, l_17, l_18, l_19, l_20, l_21, l_22, l_23, l_24, l_25, l_26, l_27, l_28, l_29, l_30, l_31, l_32, l_40, l_41, l_42, l_43, l_44, l_45, l_46, l_47, l_48, l_49, l_50, l_51, l_52, l_53, l_54, l_55, l_56, l_57, l_58, l_59, l_60, l_61, l_62, l_63, l_64, l_72, l_97, l_99, l_100, l_104, l_120, l_122, l_128, l_140, l_255, l_256, l_257, l_258, l_260, l_261, l_262, l_364, l_680, l_700, l_701, l_840, l_999, l_1023, l_1024, l_9999, l_10000, l_1000000, lm, bq_s, bd_s, mp_s, rz_0, rz_1, bI_rz, tr_P h]
  exact bI_two _ _ _
theorem c_isRain' (h : TR σ t D) (x : Int32) : f_X9_isRain t x σ = some (bI (okR D x), σ) := by
  have hw := h.w
  have ht := h.tn
  unfold f_X9_isRain f_X9_isRain_0
  simp (disch := first | (with_reducible assumption) | omega | exact ⟨by omega, by omega⟩ | ((with_reducible first | apply Wf.wI | apply Wf.wL | apply Wf.fr); (repeat (with_reducible first | assumption | apply Wf.wI | apply Wf.wL | apply Wf.fr)))) only [ck_t, gI_t, gL_t, pI_t, pZ0_t, pZ1_t, pL_t, ck_w, gI_w, gL_w, pI_w, pZ0_w, pZ1_w, pL_w, gR_t_1, gR_t_5, gR_t_7, gR_t_9, gR_t_10, gR_t_11, gR_t_12, gR_t_15, gR_w_2, gR_w_3, gR_w_4, gR_w_5, gR_w_6, gR_w_7, aR_crow, aR_srow, aR_prow, aR_rrow, aI_crow, sI_crow, len_crow, aI_srow, sI_srow, len_srow, aI_prow, sI_prow, len_prow, aI_rrow, sI_rrow, len_rrow, aI_t25, sI_t25, len_t25, aI_t31, sI_t31, len_t31, aI_t32, sI_t32, len_t32, aI_t34, sI_t34, len_t34, aI_t35, sI_t35, len_t35, aI_t36, sI_t36, len_t36, aI_t37, sI_t37, len_t37, aL_t38, sL_t38, len_t38, aL_t39, sL_t39, len_t39, l_0, l_1, l_2, l_3, l_4, l_5, l_6, l_7, l_8, l_9, l_10, l_11, l_12, l_13, l_14, l_15, l_16, l_17, l_18, l_19, l_20, l_21, l_22, l_23, l_24, l_25, l_26, l_27, l_28, l_29, l_30, l_31, l_32, l_40, l_41, l_42, l_43, l_44, l_45, l_46, l_47, l_48, l_49, l_50, l_51, l_52, l_53, l_54, l_55, l_56, l_57, l_58, l_59, l_60, l_61, l_62, l_63, l_64, l_72, l_97, l_99, l_100, l_104, l_120, l_122, l_128, l_140, l_255, l_256, l_257, l_258, l_260, l_261, l_262, l_364, l_680, l_700, l_701, l_840, l_999, l_1023, l_1024, l_9999, l_10000, l_1000000, lm, bq_s, bd_s, mp_s, rz_0, rz_1, bI_rz, tr_N h]
  exact bI_two _ _ _
theorem c_find2 (h : TR σ t D) (v : Int32) : ∀ m k fu, k + m = nC D → m < fu → f_X9_find_2 fu t (nI 0) v (nI k) σ = some (fnd (D 228) v k m, σ) := by
  have hw := h.w
  have ht := h.tn
  have b1 := h.bd
  intro m
  induction m with
  | zero =>
    intro k fu hk hf
    obtain ⟨fu, rfl⟩ : ∃ q, fu = q + 1 := ⟨fu - 1, by omega⟩
    show f_X9_find_2_b _ _ _ _ _ _ = _
    unfold f_X9_find_2_b f_X9_find_34
    simp only [to_bq, l_0, l_1, l_2, l_3, l_4, l_5, l_6, l_7, l_8, l_9, l_10, l_11, l_12, l_13, l_14, l_15, l_16, l_17, l_18, l_19, l_20, l_21, l_22, l_23, l_24, l_25, l_26, l_27, l_28, l_29, l_30, l_31, l_32, l_40, l_41, l_42, l_43, l_44, l_45, l_46, l_47, l_48, l_49, l_50, l_51, l_52, l_53, l_54, l_55, l_56, l_57, l_58, l_59, l_60, l_61, l_62, l_63, l_64, l_72, l_97, l_99, l_100, l_104, l_120, l_122, l_128, l_140, l_255, l_256, l_257, l_258, l_260, l_261, l_262, l_364, l_680, l_700, l_701, l_840, l_999, l_1023, l_1024, l_9999, l_10000, l_1000000, lm]
    simp (disch := first | (with_reducible assumption) | omega | exact ⟨by omega, by omega⟩ | ((with_reducible first | apply Wf.wI | apply Wf.wL | apply Wf.fr); (repeat (with_reducible first | assumption | apply Wf.wI | apply Wf.wL | apply Wf.fr)))) only [ck_t, gI_t, gL_t, pI_t, pZ0_t, pZ1_t, pL_t, ck_w, gI_w, gL_w, pI_w, pZ0_w, pZ1_w, pL_w, gR_t_1, gR_t_5, gR_t_7, gR_t_9, gR_t_10, gR_t_11, gR_t_12, gR_t_15, gR_w_2, gR_w_3, gR_w_4, gR_w_5, gR_w_6, gR_w_7, aR_crow, aR_srow, aR_prow, aR_rrow, aI_crow, sI_crow, len_crow, aI_srow, sI_srow, len_srow, aI_prow, sI_prow, len_prow, aI_rrow, sI_rrow, len_rrow, aI_t25, sI_t25, len_t25, aI_t31, sI_t31, len_t31, aI_t32, sI_t32, len_t32, aI_t34, sI_t34, len_t34, aI_t35, sI_t35, len_t35, aI_t36, sI_t36, len_t36, aI_t37, sI_t37, len_t37, aL_t38, sL_t38, len_t38, aL_t39, sL_t39, len_t39, bq_s, bd_s, mp_s, rz_0, rz_1, bI_rz, zadd, zmul, zsub, le_nI, lt_nI, eq_nI, neg_nI, gen_nI, neg_lt, neg_le, neg_lt', neg_le', nI_lt0, if_true, if_false, ite_true, ite_false, reduceIte, not_true, not_false, and_true, true_and, and_false, false_and, or_true, true_or, or_false, false_or, eq_self, tr_C h, show (nC D ≤ k) = True from eq_true (by omega)]
    show f_X9_find_36_b _ _ _ _ _ _ = _
    unfold f_X9_find_36_b
    simp (disch := first | (with_reducible assumption) | omega | exact ⟨by omega, by omega⟩ | ((with_reducible first | apply Wf.wI | apply Wf.wL | apply Wf.fr); (repeat (with_reducible first | assumption | apply Wf.wI | apply Wf.wL | apply Wf.fr)))) only [l_0, l_1, l_2, l_3, l_4, l_5, l_6, l_7, l_8, l_9, l_10, l_11, l_12, l_13, l_14, l_15, l_16, l_17, l_18, l_19, l_20, l_21, l_22, l_23, l_24, l_25, l_26, l_27, l_28, l_29, l_30, l_31, l_32, l_40, l_41, l_42, l_43, l_44, l_45, l_46, l_47, l_48, l_49, l_50, l_51, l_52, l_53, l_54, l_55, l_56, l_57, l_58, l_59, l_60, l_61, l_62, l_63, l_64, l_72, l_97, l_99, l_100, l_104, l_120, l_122, l_128, l_140, l_255, l_256, l_257, l_258, l_260, l_261, l_262, l_364, l_680, l_700, l_701, l_840, l_999, l_1023, l_1024, l_9999, l_10000, l_1000000, lm, zadd, zmul, zsub, le_nI, lt_nI, eq_nI, neg_nI, gen_nI, neg_lt, neg_le, neg_lt', neg_le', nI_lt0, Nat.reduceEqDiff, Nat.reduceAdd, Nat.reduceMul, Nat.reduceSub, Nat.reduceLT, Nat.reduceLeDiff, Nat.add_sub_cancel, Nat.zero_add, Nat.add_zero, Nat.mul_zero, Nat.zero_mul, if_true, if_false, ite_true, ite_false, reduceIte, not_true, not_false, and_true, true_and, and_false, false_and, or_true, true_or, or_false, false_or, eq_self, show ((0 : Nat) = 1) = False from eq_false (by omega)]
    rfl
  | succ m ih =>
    intro k fu hk hf
    obtain ⟨fu, rfl⟩ : ∃ q, fu = q + 1 := ⟨fu - 1, by omega⟩
    show f_X9_find_2_b _ _ _ _ _ _ = _
    unfold f_X9_find_2_b
    simp only [to_bq, l_0, l_1, l_2, l_3, l_4, l_5, l_6, l_7, l_8, l_9, l_10, l_11, l_12, l_13, l_14, l_15, l_16, l_17, l_18, l_19, l_20, l_21, l_22, l_23, l_24, l_25, l_26, l_27, l_28, l_29, l_30, l_31, l_32, l_40, l_41, l_42, l_43, l_44, l_45, l_46, l_47, l_48, l_49, l_50, l_51, l_52, l_53, l_54, l_55, l_56, l_57, l_58, l_59, l_60, l_61, l_62, l_63, l_64, l_72, l_97, l_99, l_100, l_104, l_120, l_122, l_128, l_140, l_255, l_256, l_257, l_258, l_260, l_261, l_262, l_364, l_680, l_700, l_701, l_840, l_999, l_1023, l_1024, l_9999, l_10000, l_1000000, lm]
    simp (disch := first | (with_reducible assumption) | omega | exact ⟨by omega, by omega⟩ | ((with_reducible first | apply Wf.wI | apply Wf.wL | apply Wf.fr); (repeat (with_reducible first | assumption | apply Wf.wI | apply Wf.wL | apply Wf.fr)))) only [ck_t, gI_t, gL_t, pI_t, pZ0_t, pZ1_t, pL_t, ck_w, gI_w, gL_w, pI_w, pZ0_w, pZ1_w, pL_w, gR_t_1, gR_t_5, gR_t_7, gR_t_9, gR_t_10, gR_t_11, gR_t_12, gR_t_15, gR_w_2, gR_w_3, gR_w_4, gR_w_5, gR_w_6, gR_w_7, aR_crow, aR_srow, aR_prow, aR_rrow, aI_crow, sI_crow, len_crow, aI_srow, sI_srow, len_srow, aI_prow, sI_prow, len_prow, aI_rrow, sI_rrow, len_rrow, aI_t25, sI_t25, len_t25, aI_t31, sI_t31, len_t31, aI_t32, sI_t32, len_t32, aI_t34, sI_t34, len_t34, aI_t35, sI_t35, len_t35, aI_t36, sI_t36, len_t36, aI_t37, sI_t37, len_t37, aL_t38, sL_t38, len_t38, aL_t39, sL_t39, len_t39, bq_s, bd_s, mp_s, rz_0, rz_1, bI_rz, zadd, zmul, zsub, le_nI, lt_nI, eq_nI, neg_nI, gen_nI, neg_lt, neg_le, neg_lt', neg_le', nI_lt0, if_true, if_false, ite_true, ite_false, reduceIte, not_true, not_false, and_true, true_and, and_false, false_and, or_true, true_or, or_false, false_or, eq_self, tr_C h, tr_nm h, show (nC D ≤ k) = False from eq_false (by omega), ih (k + 1) fu (by omega) (by omega), fnd_s]
    by_cases q : D 228 k = v
    · rw [if_pos q, if_pos q]
    · rw [if_neg q, if_neg q]
theorem c_find36 (h : TR σ t D) (v : Int32) : ∀ m k fu, k + m = nR D → m < fu → f_X9_find_36 fu t (nI 1) v (nI k) σ = some (fnd (D 239) v k m, σ) := by
  have hw := h.w
  have ht := h.tn
  have b1 := h.bd
  intro m
  induction m with
  | zero =>
    intro k fu hk hf
    obtain ⟨fu, rfl⟩ : ∃ q, fu = q + 1 := ⟨fu - 1, by omega⟩
    show f_X9_find_36_b _ _ _ _ _ _ = _
    unfold f_X9_find_36_b
    simp only [to_bq, l_0, l_1, l_2, l_3, l_4, l_5, l_6, l_7, l_8, l_9, l_10, l_11, l_12, l_13, l_14, l_15, l_16, l_17, l_18, l_19, l_20, l_21, l_22, l_23, l_24, l_25, l_26, l_27, l_28, l_29, l_30, l_31, l_32, l_40, l_41, l_42, l_43, l_44, l_45, l_46, l_47, l_48, l_49, l_50, l_51, l_52, l_53, l_54, l_55, l_56, l_57, l_58, l_59, l_60, l_61, l_62, l_63, l_64, l_72, l_97, l_99, l_100, l_104, l_120, l_122, l_128, l_140, l_255, l_256, l_257, l_258, l_260, l_261, l_262, l_364, l_680, l_700, l_701, l_840, l_999, l_1023, l_1024, l_9999, l_10000, l_1000000, lm]
    simp (disch := first | (with_reducible assumption) | omega | exact ⟨by omega, by omega⟩ | ((with_reducible first | apply Wf.wI | apply Wf.wL | apply Wf.fr); (repeat (with_reducible first | assumption | apply Wf.wI | apply Wf.wL | apply Wf.fr)))) only [ck_t, gI_t, gL_t, pI_t, pZ0_t, pZ1_t, pL_t, ck_w, gI_w, gL_w, pI_w, pZ0_w, pZ1_w, pL_w, gR_t_1, gR_t_5, gR_t_7, gR_t_9, gR_t_10, gR_t_11, gR_t_12, gR_t_15, gR_w_2, gR_w_3, gR_w_4, gR_w_5, gR_w_6, gR_w_7, aR_crow, aR_srow, aR_prow, aR_rrow, aI_crow, sI_crow, len_crow, aI_srow, sI_srow, len_srow, aI_prow, sI_prow, len_prow, aI_rrow, sI_rrow, len_rrow, aI_t25, sI_t25, len_t25, aI_t31, sI_t31, len_t31, aI_t32, sI_t32, len_t32, aI_t34, sI_t34, len_t34, aI_t35, sI_t35, len_t35, aI_t36, sI_t36, len_t36, aI_t37, sI_t37, len_t37, aL_t38, sL_t38, len_t38, aL_t39, sL_t39, len_t39, bq_s, bd_s, mp_s, rz_0, rz_1, bI_rz, zadd, zmul, zsub, le_nI, lt_nI, eq_nI, neg_nI, gen_nI, neg_lt, neg_le, neg_lt', neg_le', nI_lt0, if_true, if_false, ite_true, ite_false, reduceIte, not_true, not_false, and_true, true_and, and_false, false_and, or_true, true_or, or_false, false_or, eq_self, tr_N h, show (nR D ≤ k) = True from eq_true (by omega)]
    rfl
  | succ m ih =>
    intro k fu hk hf
    obtain ⟨fu, rfl⟩ : ∃ q, fu = q + 1 := ⟨fu - 1, by omega⟩
    show f_X9_find_36_b _ _ _ _ _ _ = _
    unfold f_X9_find_36_b
    simp only [to_bq, l_0, l_1, l_2, l_3, l_4, l_5, l_6, l_7, l_8, l_9, l_10, l_11, l_12, l_13, l_14, l_15, l_16, l_17, l_18, l_19, l_20, l_21, l_22, l_23, l_24, l_25, l_26, l_27, l_28, l_29, l_30, l_31, l_32, l_40, l_41, l_42, l_43, l_44, l_45, l_46, l_47, l_48, l_49, l_50, l_51, l_52, l_53, l_54, l_55, l_56, l_57, l_58, l_59, l_60, l_61, l_62, l_63, l_64, l_72, l_97, l_99, l_100, l_104, l_120, l_122, l_128, l_140, l_255, l_256, l_257, l_258, l_260, l_261, l_262, l_364, l_680, l_700, l_701, l_840, l_999, l_1023, l_1024, l_9999, l_10000, l_1000000, lm]
    simp (disch := first | (with_reducible assumption) | omega | exact ⟨by omega, by omega⟩ | ((with_reducible first | apply Wf.wI | apply Wf.wL | apply Wf.fr); (repeat (with_reducible first | assumption | apply Wf.wI | apply Wf.wL | apply Wf.fr)))) only [ck_t, gI_t, gL_t, pI_t, pZ0_t, pZ1_t, pL_t, ck_w, gI_w, gL_w, pI_w, pZ0_w, pZ1_w, pL_w, gR_t_1, gR_t_5, gR_t_7, gR_t_9, gR_t_10, gR_t_11, gR_t_12, gR_t_15, gR_w_2, gR_w_3, gR_w_4, gR_w_5, gR_w_6, gR_w_7, aR_crow, aR_srow, aR_prow, aR_rrow, aI_crow, sI_crow, len_crow, aI_srow, sI_srow, len_srow, aI_prow, sI_prow, len_prow, aI_rrow, sI_rrow, len_rrow, aI_t25, sI_t25, len_t25, aI_t31, sI_t31, len_t31, aI_t32, sI_t32, len_t32, aI_t34, sI_t34, len_t34, aI_t35, sI_t35, len_t35, aI_t36, sI_t36, len_t36, aI_t37, sI_t37, len_t37, aL_t38, sL_t38, len_t38, aL_t39, sL_t39, len_t39, bq_s, bd_s, mp_s, rz_0, rz_1, bI_rz, zadd, zmul, zsub, le_nI, lt_nI, eq_nI, neg_nI, gen_nI, neg_lt, neg_le, neg_lt', neg_le', nI_lt0, if_true, if_false, ite_true, ite_false, reduceIte, not_true, not_false, and_true, true_and, and_false, false_and, or_true, true_or, or_false, false_or, eq_self, tr_N h, tr_rnm h, show (nR D ≤ k) = False from eq_false (by omega), ih (k + 1) fu (by omega) (by omega), fnd_s]
    by_cases q : D 239 k = v
    · rw [if_pos q, if_pos q]
    · rw [if_neg q, if_neg q]
theorem c_find (h : TR σ t D) (w v : Int32) : f_X9_find t w v σ = some (sNamed D w v, σ) := by
  have hw := h.w
  have ht := h.tn
  have b1 := h.bd
  unfold f_X9_find f_X9_find_0 sNamed
  rw [ck_t hw ht, l_0]
  by_cases q0 : w = nI 0
  · rw [if_pos q0, q0, c_find2 h v (nC D) 0 5000 (by omega) (by omega)]
  · rw [if_neg q0]
    show f_X9_find_2_b _ _ _ _ _ _ = _
    unfold f_X9_find_2_b f_X9_find_34
    rw [l_0, if_neg q0]
    by_cases q1 : w = nI 1
    · rw [if_pos q1, q1, c_find36 h v (nR D) 0 5000 (by omega) (by omega)]
    · rw [if_neg q1]
      show f_X9_find_36_b _ _ _ _ _ _ = _
      unfold f_X9_find_36_b
      rw [l_1, if_neg q1]
      rfl
theorem c_touches (h : TR σ t D) (hs : s < nS D) (hc : c < 7) : f_X9_touches t (nI s) (nI c) σ = some (bI (sA D s = c ∨ sB D s = c), σ) := by
  have hw := h.w
  have ht := h.tn
  have b1 := h.bd
  have hA := h.t.qsAc hs
  have hB := h.t.qsBc hs
  unfold f_X9_touches f_X9_touches_0
  simp only [to_bq, l_0, l_1, l_2, l_3, l_4, l_5, l_6, l_7, l_8, l_9, l_10, l_11, l_12, l_13, l_14, l_15, l_16, l_17, l_18, l_19, l_20, l_21, l_22, l_23, l_24, l_25, l_26, l_27, l_28, l_29, l_30, l_31, l_32, l_40, l_41, l_42, l_43, l_44, l_45, l_46, l_47, l_48, l_49, l_50, l_51, l_52, l_53, l_54, l_55, l_56, l_57, l_58, l_59, l_60, l_61, l_62, l_63, l_64, l_72, l_97, l_99, l_100, l_104, l_120, l_122, l_128, l_140, l_255, l_256, l_257, l_258, l_260, l_261, l_262, l_364, l_680, l_700, l_701, l_840, l_999, l_1023, l_1024, l_9999, l_10000, l_1000000, lm]
  simp (disch := first | (with_reducible assumption) | omega | exact ⟨by omega, by omega⟩ | ((with_reducible first | apply Wf.wI | apply Wf.wL | apply Wf.fr); (repeat (with_reducible first | assumption | apply Wf.wI | apply Wf.wL | apply Wf.fr)))) only [ck_t, gI_t, gL_t, pI_t, pZ0_t, pZ1_t, pL_t, ck_w, gI_w, gL_w, pI_w, pZ0_w, pZ1_w, pL_w, gR_t_1, gR_t_5, gR_t_7, gR_t_9, gR_t_10, gR_t_11, gR_t_12, gR_t_15, gR_w_2, gR_w_3, gR_w_4, gR_w_5, gR_w_6, gR_w_7, aR_crow, aR_srow, aR_prow, aR_rrow, aI_crow, sI_crow, len_crow, aI_srow, sI_srow, len_srow, aI_prow, sI_prow, len_prow, aI_rrow, sI_rrow, len_rrow, aI_t25, sI_t25, len_t25, aI_t31, sI_t31, len_t31, aI_t32, sI_t32, len_t32, aI_t34, sI_t34, len_t34, aI_t35, sI_t35, len_t35, aI_t36, sI_t36, len_t36, aI_t37, sI_t37, len_t37, aL_t38, sL_t38, len_t38, aL_t39, sL_t39, len_t39, bq_s, bd_s, mp_s, rz_0, rz_1, bI_rz, zadd, zmul, zsub, le_nI, lt_nI, eq_nI, neg_nI, gen_nI, neg_lt, neg_le, neg_lt', neg_le', nI_lt0, tr_sA h, tr_sB h]
  unfold bI
  by_cases q1 : sA D s = c
  · rw [if_pos q1, if_pos (Or.inl q1)]
  · rw [if_neg q1]
    by_cases q2 : sB D s = c
    · rw [if_pos q2, if_pos (Or.inr q2)]
    · rw [if_neg q2, if_neg (fun r => r.elim q1 q2)]
theorem c_otherEnd (h : TR σ t D) (hs : s < nS D) (hc : c < 7) : f_X9_otherEnd t (nI s) (nI c) σ = some (nI (oth D s c), σ) := by
  have hw := h.w
  have ht := h.tn
  have b1 := h.bd
  have hA := h.t.qsAc hs
  have hB := h.t.qsBc hs
  unfold f_X9_otherEnd f_X9_otherEnd_0
  simp only [to_bq, l_0, l_1, l_2, l_3, l_4, l_5, l_6, l_7, l_8, l_9, l_10, l_11, l_12, l_13, l_14, l_15, l_16, l_17, l_18, l_19, l_20, l_21, l_22, l_23, l_24, l_25, l_26, l_27, l_28, l_29, l_30, l_31, l_32, l_40, l_41, l_42, l_43, l_44, l_45, l_46, l_47, l_48, l_49, l_50, l_51, l_52, l_53, l_54, l_55, l_56, l_57, l_58, l_59, l_60, l_61, l_62, l_63, l_64, l_72, l_97, l_99, l_100, l_104, l_120, l_122, l_128, l_140, l_255, l_256, l_257, l_258, l_260, l_261, l_262, l_364, l_680, l_700, l_701, l_840, l_999, l_1023, l_1024, l_9999, l_10000, l_1000000, lm]
  simp (disch := first | (with_reducible assumption) | omega | exact ⟨by omega, by omega⟩ | ((with_reducible first | apply Wf.wI | apply Wf.wL | apply Wf.fr); (repeat (with_reducible first | assumption | apply Wf.wI | apply Wf.wL | apply Wf.fr)))) only [ck_t, gI_t, gL_t, pI_t, pZ0_t, pZ1_t, pL_t, ck_w, gI_w, gL_w, pI_w, pZ0_w, pZ1_w, pL_w, gR_t_1, gR_t_5, gR_t_7, gR_t_9, gR_t_10, gR_t_11, gR_t_12, gR_t_15, gR_w_2, gR_w_3, gR_w_4, gR_w_5, gR_w_6, gR_w_7, aR_crow, aR_srow, aR_prow, aR_rrow, aI_crow, sI_crow, len_crow, aI_srow, sI_srow, len_srow, aI_prow, sI_prow, len_prow, aI_rrow, sI_rrow, len_rrow, aI_t25, sI_t25, len_t25, aI_t31, sI_t31, len_t31, aI_t32, sI_t32, len_t32, aI_t34, sI_t34, len_t34, aI_t35, sI_t35, len_t35, aI_t36, sI_t36, len_t36, aI_t37, sI_t37, len_t37, aL_t38, sL_t38, len_t38, aL_t39, sL_t39, len_t39, bq_s, bd_s, mp_s, rz_0, rz_1, bI_rz, zadd, zmul, zsub, le_nI, lt_nI, eq_nI, neg_nI, gen_nI, neg_lt, neg_le, neg_lt', neg_le', nI_lt0, tr_sA h, tr_sB h, iteS]
  unfold oth
  by_cases q : sA D s = c
  · rw [if_pos q, if_pos q]
  · rw [if_neg q, if_neg q]
theorem c_rockyAt (h : TR σ t D) (hc : c < nC D) {d : Nat} (hd : d ≤ 12) : f_X9_rockyAt t (nI c) (nI d) σ = some (nI (d - rck D c), σ) := by
  have hw := h.w
  have ht := h.tn
  have b1 := h.bd
  have b2 := h.t.qrck20 hc
  unfold f_X9_rockyAt f_X9_rockyAt_0
  simp only [to_bq, l_0, l_1, l_2, l_3, l_4, l_5, l_6, l_7, l_8, l_9, l_10, l_11, l_12, l_13, l_14, l_15, l_16, l_17, l_18, l_19, l_20, l_21, l_22, l_23, l_24, l_25, l_26, l_27, l_28, l_29, l_30, l_31, l_32, l_40, l_41, l_42, l_43, l_44, l_45, l_46, l_47, l_48, l_49, l_50, l_51, l_52, l_53, l_54, l_55, l_56, l_57, l_58, l_59, l_60, l_61, l_62, l_63, l_64, l_72, l_97, l_99, l_100, l_104, l_120, l_122, l_128, l_140, l_255, l_256, l_257, l_258, l_260, l_261, l_262, l_364, l_680, l_700, l_701, l_840, l_999, l_1023, l_1024, l_9999, l_10000, l_1000000, lm]
  have e1 : op_maxi (nI 0) (nI d - nI (rck D c)) = nI (d - rck D c) := by
    rw [jI_n, jI_n, jI_n, jsub, maxi_j ⟨by omega, by omega⟩ ⟨by omega, by omega⟩, jI_n]
    congr 1
    omega
  simp (disch := first | (with_reducible assumption) | omega | exact ⟨by omega, by omega⟩ | ((with_reducible first | apply Wf.wI | apply Wf.wL | apply Wf.fr); (repeat (with_reducible first | assumption | apply Wf.wI | apply Wf.wL | apply Wf.fr)))) only [ck_t, gI_t, gL_t, pI_t, pZ0_t, pZ1_t, pL_t, ck_w, gI_w, gL_w, pI_w, pZ0_w, pZ1_w, pL_w, gR_t_1, gR_t_5, gR_t_7, gR_t_9, gR_t_10, gR_t_11, gR_t_12, gR_t_15, gR_w_2, gR_w_3, gR_w_4, gR_w_5, gR_w_6, gR_w_7, aR_crow, aR_srow, aR_prow, aR_rrow, aI_crow, sI_crow, len_crow, aI_srow, sI_srow, len_srow, aI_prow, sI_prow, len_prow, aI_rrow, sI_rrow, len_rrow, aI_t25, sI_t25, len_t25, aI_t31, sI_t31, len_t31, aI_t32, sI_t32, len_t32, aI_t34, sI_t34, len_t34, aI_t35, sI_t35, len_t35, aI_t36, sI_t36, len_t36, aI_t37, sI_t37, len_t37, aL_t38, sL_t38, len_t38, aL_t39, sL_t39, len_t39, bq_s, bd_s, mp_s, rz_0, rz_1, bI_rz, tr_rck h, e1]
theorem c_fallByLength (h : TR σ t D) (hs : s < nS D) {z : Int} (hz : -3000 ≤ z ∧ z ≤ 3000) : f_X9_fallByLength t (nI s) (jI z) σ = some (jI (z.tdiv (len D s)), σ) := by
  have hw := h.w
  have ht := h.tn
  have b1 := h.bd
  have b3 := h.t.qlen1 hs
  have b4 := h.t.qlen99 hs
  have e1 := jI_n (len D s)
  have hdv : op_div (jI z) (nI (len D s)) = some (jI (z.tdiv (len D s))) := by
    rw [e1]; exact div_j (by omega) (by omega) ⟨by omega, by omega⟩ (by omega)
  unfold f_X9_fallByLength f_X9_fallByLength_0
  simp only [to_bq, l_0, l_1, l_2, l_3, l_4, l_5, l_6, l_7, l_8, l_9, l_10, l_11, l_12, l_13, l_14, l_15, l_16, l_17, l_18, l_19, l_20, l_21, l_22, l_23, l_24, l_25, l_26, l_27, l_28, l_29, l_30, l_31, l_32, l_40, l_41, l_42, l_43, l_44, l_45, l_46, l_47, l_48, l_49, l_50, l_51, l_52, l_53, l_54, l_55, l_56, l_57, l_58, l_59, l_60, l_61, l_62, l_63, l_64, l_72, l_97, l_99, l_100, l_104, l_120, l_122, l_128, l_140, l_255, l_256, l_257, l_258, l_260, l_261, l_262, l_364, l_680, l_700, l_701, l_840, l_999, l_1023, l_1024, l_9999, l_10000, l_1000000, lm]
  simp (disch := first | (with_reducible assumption) | omega | exact ⟨by omega, by omega⟩ | ((with_reducible first | apply Wf.wI | apply Wf.wL | apply Wf.fr); (repeat (with_reducible first | assumption | apply Wf.wI | apply Wf.wL | apply Wf.fr)))) only [ck_t, gI_t, gL_t, pI_t, pZ0_t, pZ1_t, pL_t, ck_w, gI_w, gL_w, pI_w, pZ0_w, pZ1_w, pL_w, gR_t_1, gR_t_5, gR_t_7, gR_t_9, gR_t_10, gR_t_11, gR_t_12, gR_t_15, gR_w_2, gR_w_3, gR_w_4, gR_w_5, gR_w_6, gR_w_7, aR_crow, aR_srow, aR_prow, aR_rrow, aI_crow, sI_crow, len_crow, aI_srow, sI_srow, len_srow, aI_prow, sI_prow, len_prow, aI_rrow, sI_rrow, len_rrow, aI_t25, sI_t25, len_t25, aI_t31, sI_t31, len_t31, aI_t32, sI_t32, len_t32, aI_t34, sI_t34, len_t34, aI_t35, sI_t35, len_t35, aI_t36, sI_t36, len_t36, aI_t37, sI_t37, len_t37, aL_t38, sL_t38, len_t38, aL_t39, sL_t39, len_t39, bq_s, bd_s, mp_s, rz_0, rz_1, bI_rz, zadd, zmul, zsub, le_nI, lt_nI, eq_nI, neg_nI, gen_nI, neg_lt, neg_le, neg_lt', neg_le', nI_lt0, tr_len h, hdv, show (len D s ≤ 0) = False from eq_false (by omega), show (0 < len D s) = True from eq_true (by omega), if_true, if_false, ite_true, ite_false, reduceIte, not_true, not_false, and_true, true_and, and_false, false_and, or_true, true_or, or_false, false_or, eq_self]
end
