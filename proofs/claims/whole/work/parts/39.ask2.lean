/-! The reference's answers: lift, cost, laws -/
def aD (D : DD) (c : Nat) : Nat := ix (D 250 c)
def bD (D : DD) (c : Nat) : Nat := ix (D 251 c)
def pD (D : DD) (c : Nat) : Nat := ix (D 249 c)
theorem toI_i {z : Int} (h : JB z) : Int64.toInt32 (iL z) = jI z := by
  apply Int32.toInt_inj.mp
  unfold JB at h
  rw [Int64.toInt_toInt32, iL_t (by omega) (by omega), jI_t h.1 h.2]
  exact Int.bmod_eq_of_le (by omega) (by omega)
theorem maxi_n {x a b : Nat} (hx : x < 1000) (ha : a < 1000) (hb : b < 1000) : op_maxi (nI x) (nI b - nI a) = nI (max x (b - a)) := by
  rw [jI_n, jI_n, jI_n, jsub, maxi_j ⟨by omega, by omega⟩ ⟨by omega, by omega⟩, jI_n]
  congr 1
  omega
section
variable {σ : ah_H} {D : DD}
/-- what is known of a pipe laid -/
theorem MInv.lb (h : MInv σ D) {c s : Nat} (hc : c < nC D) (hx : stD D c = some s) : s < nS D ∧ D 227 4 ≠ nI c ∧ (sA D s = c ∨ sB D s = c) ∧ pD D c < nP D ∧ aD D c ≤ 12 ∧ bD D c ≤ 12 ∧ D 249 c = nI (pD D c) ∧ D 250 c = nI (aD D c) ∧ D 251 c = nI (bD D c) := by
  have b1 := h.bd
  obtain ⟨h1, h2, h3, h4, h5, ⟨p, hp, ep⟩, ⟨a, ha, ea⟩, ⟨b, hb, eb⟩⟩ := h.n.laid h.t (show c < 7 by omega) hx
  have e1 : pD D c = p := by unfold pD; rw [ep]; exact ix_nI (by omega)
  have e2 : aD D c = a := by unfold aD; rw [ea]; exact ix_nI (by omega)
  have e3 : bD D c = b := by unfold bD; rw [eb]; exact ix_nI (by omega)
  rw [e1, e2, e3]
  exact ⟨h3, h2, h5, hp, ha, hb, ep, ea, eb⟩
theorem MInv.net (h : MInv σ D) {c s : Nat} (hc : c < nC D) (hx : stD D c = some s) : ah_I σ 249 c = nI (pD D c) ∧ ah_I σ 250 c = nI (aD D c) ∧ ah_I σ 251 c = nI (bD D c) := by
  have b1 := h.bd
  obtain ⟨-, -, -, -, -, -, e1, e2, e3⟩ := h.lb hc hx
  exact ⟨(h.at (by unfold PM; omega)).trans e1, (h.at (by unfold PM; omega)).trans e2, (h.at (by unfold PM; omega)).trans e3⟩
theorem m_pO (h : MInv σ D) (hn : ah_I σ 225 42 = nI 0) {c s : Nat} (hc : c < nC D) (hx : stD D c = some s) : f_X12_pipeOf 225 (nI c) σ = some (nI (pD D c), σ) := by
  rw [m_pipeOf h.w hn (by omega) (by have := h.bd; omega), show 7 * 0 + c = c by omega, (h.net hc hx).1]
theorem m_aO (h : MInv σ D) (hn : ah_I σ 225 42 = nI 0) {c s : Nat} (hc : c < nC D) (hx : stD D c = some s) : f_X12_aOf 225 (nI c) σ = some (nI (aD D c), σ) := by
  rw [m_aOf h.w hn (by omega) (by have := h.bd; omega), show 7 * 0 + c = c by omega, (h.net hc hx).2.1]
theorem m_bO (h : MInv σ D) (hn : ah_I σ 225 42 = nI 0) {c s : Nat} (hc : c < nC D) (hx : stD D c = some s) : f_X12_bOf 225 (nI c) σ = some (nI (bD D c), σ) := by
  rw [m_bOf h.w hn (by omega) (by have := h.bd; omega), show 7 * 0 + c = c by omega, (h.net hc hx).2.2]
theorem m_sO (h : MInv σ D) (hn : ah_I σ 225 42 = nI 0) {c s : Nat} (hc : c < nC D) (hx : stD D c = some s) : f_X12_streetOf 225 (nI c) σ = some (nI s, σ) := by
  rw [m_streetOf h (h.st0 hn) hc, hx]; rfl
theorem nx_st {st : Nat → Option Nat} {o c : Nat} (h : nx D st o = some c) : ∃ s, st o = some s ∧ oth D s o = c := by
  unfold nx at h
  cases hx : st o with
  | none => rw [hx] at h; cases h
  | some s => rw [hx] at h; exact ⟨s, rfl, Option.some.inj h⟩
/-- how much deeper the deepest one comes -/
def lfo (D : DD) (c : Nat) : Nat → Nat
  | 0 => 0
  | k + 1 => if nx D (stD D) k = some c then max (lfo D c k) (bD D k - aD D c) else lfo D c k
def lft (D : DD) (c : Nat) : Nat := lfo D c (nC D)
theorem lfo_b (h : MInv σ D) (c : Nat) : ∀ k, k ≤ nC D → lfo D c k ≤ 12 := by
  intro k
  induction k with
  | zero => intro _; exact Nat.zero_le _
  | succ k ih =>
    intro hk
    have := ih (by omega)
    unfold lfo
    split
    · next q =>
      obtain ⟨s, hs, -⟩ := nx_st q
      have := (h.lb (show k < nC D by omega) hs).2.2.2.2.2.1
      omega
    · exact this
theorem lft_b (h : MInv σ D) (c : Nat) : lft D c ≤ 12 := lfo_b h c _ (Nat.le_refl _)
theorem m_lift4 (h : MInv σ D) (hn : ah_I σ 225 42 = nI 0) {c s : Nat} (hc : c < nC D) (hx : stD D c = some s) : ∀ m k fu, k + m = nC D → m < fu → f_X12_liftOf_4 fu 225 (nI c) (nI (lfo D c k)) (nI k) σ = some (nI (lft D c), σ) := by
  have hw := h.w
  have b1 := h.bd
  have hst := h.st0 hn
  have ha := (h.lb hc hx).2.2.2.2.1
  intro m
  induction m with
  | zero =>
    intro k fu hk hf
    obtain ⟨fu, rfl⟩ : ∃ q, fu = q + 1 := ⟨fu - 1, by omega⟩
    obtain rfl : k = nC D := by omega
    show f_X12_liftOf_4_b _ _ _ _ _ _ = _
    unfold f_X12_liftOf_4_b
    simp only [to_bq, l_0, l_1, l_2, l_3, l_4, l_5, l_6, l_7, l_8, l_9, l_10, l_11, l_12, l_13, l_14, l_15, l_16, l_17, l_18, l_19, l_20, l_21, l_22, l_23, l_24, l_25, l_26, l_27, l_28, l_29, l_30, l_31, l_32, l_40, l_41, l_42, l_43, l_44, l_45, l_46, l_47, l_48, l_49, l_50, l_51, l_52, l_53, l_54, l_55, l_56, l_57, l_58, l_59, l_60, l_61, l_62, l_63, l_64, l_72, l_97, l_99, l_100, l_104, l_120, l_122, l_128, l_140, l_255, l_256, l_257, l_258, l_260, l_261, l_262, l_364, l_680, l_700, l_701, l_840, l_999, l_1023, l_1024, l_9999, l_10000, l_1000000, lm]
    simp (disch := first | (with_reducible assumption) | omega | exact ⟨by omega, by omega⟩ | ((with_reducible first | apply Wf.wI | apply Wf.wL | apply Wf.fL | apply Wf.fI | apply Wf.fr); (repeat (with_reducible first | assumption | apply Wf.wI | apply Wf.wL | apply Wf.fL | apply Wf.fI | apply Wf.fr)))) only [ck_225, gI_225, gL_225, pI_225, pZ0_225, pZ1_225, pL_225, gR_225_1, gR_225_3, gR_225_4, gR_225_5, gR_225_6, gR_225_7, gR_225_8, gR_225_9, gR_225_10, gR_225_11, gR_225_12, gR_225_13, gR_225_14, gR_225_15, gR_225_16, gR_225_17, gR_225_18, gR_225_19, gR_225_20, gR_225_21, gR_225_35, gR_225_36, gR_225_38, gR_225_39, gR_225_40, gR_225_41, gR_225_43, gR_225_44, gR_225_45, gR_225_48, gR_225_49, gR_225_50, gR_225_51, gR_225_53, gR_225_54, gR_225_55, gR_225_56, gR_225_58, gR_225_59, gR_225_60, gR_225_61, gR_225_62, gR_225_63, gR_225_66, gR_225_67, bq_s, bd_s, mp_s, rz_0, rz_1, bI_rz, zadd, zmul, zsub, le_nI, lt_nI, eq_nI, neg_nI, gen_nI, neg_lt, neg_le, neg_lt', neg_le', nI_lt0, if_true, if_false, ite_true, ite_false, reduceIte, not_true, not_false, and_true, true_and, and_false, false_and, or_true, true_or, or_false, false_or, eq_self, aI_227, rd_C h, Nat.le_refl]
    rfl
  | succ m ih =>
    intro k fu hk hf
    obtain ⟨fu, rfl⟩ : ∃ q, fu = q + 1 := ⟨fu - 1, by omega⟩
    have hk' : k < nC D := by omega
    have hi := ih (k + 1) fu (by omega) (by omega)
    show f_X12_liftOf_4_b _ _ _ _ _ _ = _
    unfold f_X12_liftOf_4_b f_X12_liftOf_39
    simp only [to_bq, l_0, l_1, l_2, l_3, l_4, l_5, l_6, l_7, l_8, l_9, l_10, l_11, l_12, l_13, l_14, l_15, l_16, l_17, l_18, l_19, l_20, l_21, l_22, l_23, l_24, l_25, l_26, l_27, l_28, l_29, l_30, l_31, l_32, l_40, l_41, l_42, l_43, l_44, l_45, l_46, l_47, l_48, l_49, l_50, l_51, l_52, l_53, l_54, l_55, l_56, l_57, l_58, l_59, l_60, l_61, l_62, l_63, l_64, l_72, l_97, l_99, l_100, l_104, l_120, l_122, l_128, l_140, l_255, l_256, l_257, l_258, l_260, l_261, l_262, l_364, l_680, l_700, l_701, l_840, l_999, l_1023, l_1024, l_9999, l_10000, l_1000000, lm]
    simp (disch := first | (with_reducible assumption) | omega | exact ⟨by omega, by omega⟩ | ((with_reducible first | apply Wf.wI | apply Wf.wL | apply Wf.fL | apply Wf.fI | apply Wf.fr); (repeat (with_reducible first | assumption | apply Wf.wI | apply Wf.wL | apply Wf.fL | apply Wf.fI | apply Wf.fr)))) only [ck_225, gI_225, gL_225, pI_225, pZ0_225, pZ1_225, pL_225, gR_225_1, gR_225_3, gR_225_4, gR_225_5, gR_225_6, gR_225_7, gR_225_8, gR_225_9, gR_225_10, gR_225_11, gR_225_12, gR_225_13, gR_225_14, gR_225_15, gR_225_16, gR_225_17, gR_225_18, gR_225_19, gR_225_20, gR_225_21, gR_225_35, gR_225_36, gR_225_38, gR_225_39, gR_225_40, gR_225_41, gR_225_43, gR_225_44, gR_225_45, gR_225_48, gR_225_49, gR_225_50, gR_225_51, gR_225_53, gR_225_54, gR_225_55, gR_225_56, gR_225_58, gR_225_59, gR_225_60, gR_225_61, gR_225_62, gR_225_63, gR_225_66, gR_225_67, bq_s, bd_s, mp_s, rz_0, rz_1, bI_rz, zadd, zmul, zsub, le_nI, lt_nI, eq_nI, neg_nI, gen_nI, neg_lt, neg_le, neg_lt', neg_le', nI_lt0, if_true, if_false, ite_true, ite_false, reduceIte, not_true, not_false, and_true, true_and, and_false, false_and, or_true, true_or, or_false, false_or, eq_self, aI_227, rd_C h, show (nC D ≤ k) = False from eq_false (by omega), m_runsTo h hst hk' hc, bI_0, ite_n]
    have e1 : lfo D c (k + 1) = if nx D (stD D) k = some c then max (lfo D c k) (bD D k - aD D c) else lfo D c k := rfl
    by_cases q : nx D (stD D) k = some c
    · rw [if_pos q]
      rw [if_pos q] at e1
      obtain ⟨s', hs', -⟩ := nx_st q
      have hb := (h.lb hk' hs').2.2.2.2.2.1
      have := lfo_b h c k (by omega)
      rw [m_bO h hn hk' hs', bq_s, m_aO h hn hc hx, bq_s, maxi_n (by omega) (by omega) (by omega), ← e1, zadd]
      exact hi
    · rw [if_neg q]
      rw [if_neg q] at e1
      rw [← e1]
      exact hi
theorem m_liftOf (h : MInv σ D) (hn : ah_I σ 225 42 = nI 0) {c s : Nat} (hc : c < nC D) (hx : stD D c = some s) : f_X12_liftOf 225 (nI c) σ = some (nI (lft D c), σ) := by
  have hw := h.w
  have b1 := h.bd
  unfold f_X12_liftOf f_X12_liftOf_0
  rw [ck_225 hw]
  exact m_lift4 h hn hc hx (nC D) 0 5000 (by omega) (by omega)
def costD (D : DD) (c : Nat) : Int := match stD D c with
  | some s => costv D c (pD D c) s (aD D c) (bD D c)
  | none => 0
theorem m_costOf (h : MInv σ D) (hn : ah_I σ 225 42 = nI 0) {c s : Nat} (hc : c < nC D) (hx : stD D c = some s) : Ok (f_X12_costOf 225 (nI c) σ) (fun r => r.1 = iL (costD D c) ∧ Fr Xv σ r.2) := by
  have hw := h.w
  obtain ⟨l1, l2, l3, l4, l5, l6, -⟩ := h.lb hc hx
  unfold f_X12_costOf f_X12_costOf_0
  simp only [to_bq, l_0, l_1, l_2, l_3, l_4, l_5, l_6, l_7, l_8, l_9, l_10, l_11, l_12, l_13, l_14, l_15, l_16, l_17, l_18, l_19, l_20, l_21, l_22, l_23, l_24, l_25, l_26, l_27, l_28, l_29, l_30, l_31, l_32, l_40, l_41, l_42, l_43, l_44, l_45, l_46, l_47, l_48, l_49, l_50, l_51, l_52, l_53, l_54, l_55, l_56, l_57, l_58, l_59, l_60, l_61, l_62, l_63, l_64, l_72, l_97, l_99, l_100, l_104, l_120, l_122, l_128, l_140, l_255, l_256, l_257, l_258, l_260, l_261, l_262, l_364, l_680, l_700, l_701, l_840, l_999, l_1023, l_1024, l_9999, l_10000, l_1000000, lm]
  simp (disch := first | (with_reducible assumption) | omega | exact ⟨by omega, by omega⟩ | ((with_reducible first | apply Wf.wI | apply Wf.wL | apply Wf.fL | apply Wf.fI | apply Wf.fr); (repeat (with_reducible first | assumption | apply Wf.wI | apply Wf.wL | apply Wf.fL | apply Wf.fI | apply Wf.fr)))) only [ck_225, gI_225, gL_225, pI_225, pZ0_225, pZ1_225, pL_225, gR_225_1, gR_225_3, gR_225_4, gR_225_5, gR_225_6, gR_225_7, gR_225_8, gR_225_9, gR_225_10, gR_225_11, gR_225_12, gR_225_13, gR_225_14, gR_225_15, gR_225_16, gR_225_17, gR_225_18, gR_225_19, gR_225_20, gR_225_21, gR_225_35, gR_225_36, gR_225_38, gR_225_39, gR_225_40, gR_225_41, gR_225_43, gR_225_44, gR_225_45, gR_225_48, gR_225_49, gR_225_50, gR_225_51, gR_225_53, gR_225_54, gR_225_55, gR_225_56, gR_225_58, gR_225_59, gR_225_60, gR_225_61, gR_225_62, gR_225_63, gR_225_66, gR_225_67, bq_s, bd_s, mp_s, rz_0, rz_1, bI_rz, m_pO h hn hc hx, m_sO h hn hc hx, m_aO h hn hc hx, m_bO h hn hc hx]
  obtain ⟨⟨r1, r2⟩, k1, k2, k3⟩ := m_costBy h hc l4 l1 l5 l6
  rw [k1]
  refine ⟨_, rfl, ?_, k3⟩
  have k2 : r1 = _ := k2
  rw [k2]
  unfold costD
  rw [hx]
noncomputable def pumpD (D : DD) (c : Nat) : Int := pumpv D (lft D c) (gmx D (stD D) plain c)
abbrev laidQ (D : DD) (c : Int32) : Prop := okC D c ∧ stD D (ix c) ≠ none
theorem laidQ_of (h : MInv σ D) {c : Int32} (q : laidQ D c) : ∃ k s, k < nC D ∧ c = nI k ∧ ix c = k ∧ stD D k = some s := by
  obtain ⟨k, hk, rfl⟩ := okC_of h.t q.1
  have b1 := h.bd
  have e1 : ix (nI k) = k := ix_nI (by omega)
  cases hx : stD D k with
  | none => exact absurd (by rw [e1]; exact hx) q.2
  | some s => exact ⟨k, s, hk, rfl, e1, hx⟩
theorem m_isThere (h : MInv σ D) (c : Int32) : f_X12_isThere 225 c σ = some (bI (laidQ D c), ah_wI σ 225 42 (nI 0)) := by
  have hw := h.w
  have b1 := h.bd
  have h' : MInv (ah_wI σ 225 42 (nI 0)) D := h.q (Fr.q0 (by omega))
  have hst := h'.st0 rI_eq
  unfold f_X12_isThere f_X12_isThere_0
  simp only [to_bq, l_0, l_1, l_2, l_3, l_4, l_5, l_6, l_7, l_8, l_9, l_10, l_11, l_12, l_13, l_14, l_15, l_16, l_17, l_18, l_19, l_20, l_21, l_22, l_23, l_24, l_25, l_26, l_27, l_28, l_29, l_30, l_31, l_32, l_40, l_41, l_42, l_43, l_44, l_45, l_46, l_47, l_48, l_49, l_50, l_51, l_52, l_53, l_54, l_55, l_56, l_57, l_58, l_59, l_60, l_61, l_62, l_63, l_64, l_72, l_97, l_99, l_100, l_104, l_120, l_122, l_128, l_140, l_255, l_256, l_257, l_258, l_260, l_261, l_262, l_364, l_680, l_700, l_701, l_840, l_999, l_1023, l_1024, l_9999, l_10000, l_1000000, lm]
  simp (disch := first | (with_reducible assumption) | omega | exact ⟨by omega, by omega⟩ | ((with_reducible first | apply Wf.wI | apply Wf.wL | apply Wf.fL | apply Wf.fI | apply Wf.fr); (repeat (with_reducible first | assumption | apply Wf.wI | apply Wf.wL | apply Wf.fL | apply Wf.fI | apply Wf.fr)))) only [ck_225, gI_225, gL_225, pI_225, pZ0_225, pZ1_225, pL_225, gR_225_1, gR_225_3, gR_225_4, gR_225_5, gR_225_6, gR_225_7, gR_225_8, gR_225_9, gR_225_10, gR_225_11, gR_225_12, gR_225_13, gR_225_14, gR_225_15, gR_225_16, gR_225_17, gR_225_18, gR_225_19, gR_225_20, gR_225_21, gR_225_35, gR_225_36, gR_225_38, gR_225_39, gR_225_40, gR_225_41, gR_225_43, gR_225_44, gR_225_45, gR_225_48, gR_225_49, gR_225_50, gR_225_51, gR_225_53, gR_225_54, gR_225_55, gR_225_56, gR_225_58, gR_225_59, gR_225_60, gR_225_61, gR_225_62, gR_225_63, gR_225_66, gR_225_67, bq_s, bd_s, mp_s, rz_0, rz_1, bI_rz, m_isCorner h', bI_0, ite_n]
  unfold bI
  by_cases q : okC D c
  · rw [if_pos q]
    obtain ⟨k, hk, rfl⟩ := okC_of h.t q
    have e1 : ix (nI k) = k := ix_nI (by omega)
    simp (disch := first | (with_reducible assumption) | omega | exact ⟨by omega, by omega⟩ | ((with_reducible first | apply Wf.wI | apply Wf.wL | apply Wf.fL | apply Wf.fI | apply Wf.fr); (repeat (with_reducible first | assumption | apply Wf.wI | apply Wf.wL | apply Wf.fL | apply Wf.fI | apply Wf.fr)))) only [m_isLaid h' hst hk, bq_s, bd_s, mp_s, rz_0, rz_1, bI_rz, bI_0, ite_n]
    by_cases q2 : stD D k = none
    · rw [if_pos q2, if_neg (fun r => by have := r.2; rw [e1] at this; exact this q2)]
    · rw [if_neg q2, if_pos ⟨q, by rw [e1]; exact q2⟩]
  · rw [if_neg q, if_neg (fun r => q r.1)]
def sCarries (D : DD) (c : Int32) : Int64 := if laidQ D c then iL (carD D (ix c)) else iL (-1)
theorem m_carries (h : MInv σ D) (c : Int32) : Ok (f_X12_carries 225 c σ) (fun r => r.1 = sCarries D c ∧ Fr Xq σ r.2) := by
  have hw := h.w
  have h1 : MInv (ah_wI σ 225 0 (nI 0)) D := h.q (Fr.q0 (by omega))
  have f2 : Fr Xq σ (ah_wI (ah_wI σ 225 0 (nI 0)) 225 42 (nI 0)) := (Fr.q0 (by omega)).trans (Fr.q0 (by omega))
  have h2 := h.q f2
  unfold f_X12_carries f_X12_carries_0 sCarries
  simp only [to_bq, l_0, l_1, l_2, l_3, l_4, l_5, l_6, l_7, l_8, l_9, l_10, l_11, l_12, l_13, l_14, l_15, l_16, l_17, l_18, l_19, l_20, l_21, l_22, l_23, l_24, l_25, l_26, l_27, l_28, l_29, l_30, l_31, l_32, l_40, l_41, l_42, l_43, l_44, l_45, l_46, l_47, l_48, l_49, l_50, l_51, l_52, l_53, l_54, l_55, l_56, l_57, l_58, l_59, l_60, l_61, l_62, l_63, l_64, l_72, l_97, l_99, l_100, l_104, l_120, l_122, l_128, l_140, l_255, l_256, l_257, l_258, l_260, l_261, l_262, l_364, l_680, l_700, l_701, l_840, l_999, l_1023, l_1024, l_9999, l_10000, l_1000000, lm]
  simp (disch := first | (with_reducible assumption) | omega | exact ⟨by omega, by omega⟩ | ((with_reducible first | apply Wf.wI | apply Wf.wL | apply Wf.fL | apply Wf.fI | apply Wf.fr); (repeat (with_reducible first | assumption | apply Wf.wI | apply Wf.wL | apply Wf.fL | apply Wf.fI | apply Wf.fr)))) only [ck_225, gI_225, gL_225, pI_225, pZ0_225, pZ1_225, pL_225, gR_225_1, gR_225_3, gR_225_4, gR_225_5, gR_225_6, gR_225_7, gR_225_8, gR_225_9, gR_225_10, gR_225_11, gR_225_12, gR_225_13, gR_225_14, gR_225_15, gR_225_16, gR_225_17, gR_225_18, gR_225_19, gR_225_20, gR_225_21, gR_225_35, gR_225_36, gR_225_38, gR_225_39, gR_225_40, gR_225_41, gR_225_43, gR_225_44, gR_225_45, gR_225_48, gR_225_49, gR_225_50, gR_225_51, gR_225_53, gR_225_54, gR_225_55, gR_225_56, gR_225_58, gR_225_59, gR_225_60, gR_225_61, gR_225_62, gR_225_63, gR_225_66, gR_225_67, bq_s, bd_s, mp_s, rz_0, rz_1, bI_rz, m_isThere h1, bI_0, ite_n]
  by_cases q : laidQ D c
  · rw [if_pos q, if_pos q]
    obtain ⟨k, s, hk, rfl, e1, hx⟩ := laidQ_of h q
    obtain ⟨⟨r1, r2⟩, k1, k2, k3⟩ := m_carriesOf h2 rI_eq hk hx
    rw [k1, bq_s, e1]
    exact ⟨_, rfl, k2, f2.trans (k3.mono Xv_q)⟩
  · rw [if_neg q, if_neg q]
    exact ⟨_, rfl, rfl, f2⟩
noncomputable def sCost (D : DD) (c w : Int32) : Int64 := if laidQ D c then (if w < nI 0 then iL (-1) else if w ≤ nI 1 then (if w = nI 0 then iL (costD D (ix c)) else iL (pumpD D (ix c))) else iL (-1)) else iL (-1)
theorem m_cost (h : MInv σ D) (c w : Int32) : Ok (f_X12_cost 225 c w σ) (fun r => r.1 = sCost D c w ∧ Fr Xq σ r.2) := by
  have hw := h.w
  have h1 : MInv (ah_wI σ 225 0 (nI 0)) D := h.q (Fr.q0 (by omega))
  have f2 : Fr Xq σ (ah_wI (ah_wI σ 225 0 (nI 0)) 225 42 (nI 0)) := (Fr.q0 (by omega)).trans (Fr.q0 (by omega))
  have h2 := h.q f2
  unfold f_X12_cost f_X12_cost_0 sCost
  simp only [to_bq, l_0, l_1, l_2, l_3, l_4, l_5, l_6, l_7, l_8, l_9, l_10, l_11, l_12, l_13, l_14, l_15, l_16, l_17, l_18, l_19, l_20, l_21, l_22, l_23, l_24, l_25, l_26, l_27, l_28, l_29, l_30, l_31, l_32, l_40, l_41, l_42, l_43, l_44, l_45, l_46, l_47, l_48, l_49, l_50, l_51, l_52, l_53, l_54, l_55, l_56, l_57, l_58, l_59, l_60, l_61, l_62, l_63, l_64, l_72, l_97, l_99, l_100, l_104, l_120, l_122, l_128, l_140, l_255, l_256, l_257, l_258, l_260, l_261, l_262, l_364, l_680, l_700, l_701, l_840, l_999, l_1023, l_1024, l_9999, l_10000, l_1000000, lm]
  simp (disch := first | (with_reducible assumption) | omega | exact ⟨by omega, by omega⟩ | ((with_reducible first | apply Wf.wI | apply Wf.wL | apply Wf.fL | apply Wf.fI | apply Wf.fr); (repeat (with_reducible first | assumption | apply Wf.wI | apply Wf.wL | apply Wf.fL | apply Wf.fI | apply Wf.fr)))) only [ck_225, gI_225, gL_225, pI_225, pZ0_225, pZ1_225, pL_225, gR_225_1, gR_225_3, gR_225_4, gR_225_5, gR_225_6, gR_225_7, gR_225_8, gR_225_9, gR_225_10, gR_225_11, gR_225_12, gR_225_13, gR_225_14, gR_225_15, gR_225_16, gR_225_17, gR_225_18, gR_225_19, gR_225_20, gR_225_21, gR_225_35, gR_225_36, gR_225_38, gR_225_39, gR_225_40, gR_225_41, gR_225_43, gR_225_44, gR_225_45, gR_225_48, gR_225_49, gR_225_50, gR_225_51, gR_225_53, gR_225_54, gR_225_55, gR_225_56, gR_225_58, gR_225_59, gR_225_60, gR_225_61, gR_225_62, gR_225_63, gR_225_66, gR_225_67, bq_s, bd_s, mp_s, rz_0, rz_1, bI_rz, m_isThere h1, bI_0, ite_n]
  by_cases q : laidQ D c
  · rw [if_pos q, if_pos q]
    by_cases q1 : w < nI 0
    · rw [if_pos q1, if_pos q1]; exact ⟨_, rfl, rfl, f2⟩
    rw [if_neg q1, if_neg q1]
    by_cases q2 : w ≤ nI 1
    · rw [if_pos q2, if_pos q2]
      obtain ⟨k, s, hk, rfl, e1, hx⟩ := laidQ_of h q
      rw [e1]
      obtain ⟨ρ, g1, g2, g3⟩ := m_run0 h2 (h2.st0 rI_eq)
      rw [g1, bq_s]
      have h3 := h2.q (g2.mono Xr_q)
      have hn3 : ah_I ρ 225 42 = nI 0 := (g2.I (by unfold Xr; omega)).trans rI_eq
      by_cases q3 : w = nI 0
      · rw [if_pos q3, if_pos q3]
        obtain ⟨⟨r1, r2⟩, k1, k2, k3⟩ := m_costOf h3 hn3 hk hx
        rw [k1, bq_s]
        exact ⟨_, rfl, k2, f2.trans ((g2.mono Xr_q).trans (k3.mono Xv_q))⟩
      · rw [if_neg q3, if_neg q3, m_liftOf h3 hn3 hk hx, bq_s]
        obtain ⟨⟨r1, r2⟩, k1, k2, k3, -⟩ := m_greatest h3 g3 hk
        have hb := gmx_b (st := stD D) (cp := plain) h.t hk
        rw [k1, bq_s]
        have k2 : r1 = _ := k2
        subst k2
        obtain ⟨⟨r3, r4⟩, j1, j2, j3⟩ := m_pumpBy (h3.q (k3.mono Xg_q)) (l := lft D k) (f := gmx D (stD D) plain k) (lft_b h k) (by omega) (by omega)
        rw [j1, bq_s]
        exact ⟨_, rfl, j2, f2.trans ((g2.mono Xr_q).trans ((k3.mono Xg_q).trans (j3.mono Xv_q)))⟩
    · rw [if_neg q2, if_neg q2]; exact ⟨_, rfl, rfl, f2⟩
  · rw [if_neg q, if_neg q]
    exact ⟨_, rfl, rfl, f2⟩
noncomputable def alv (D : DD) : Nat → Int
  | 0 => 0
  | k + 1 => if stD D k = none then alv D k else alv D k + (costD D k + pumpD D k)
/-- what answers write behind the flows -/
def Xa (a j : Nat) : Prop := a = 225 ∧ (j = 37 ∨ j = 46 ∨ j = 47) ∨ a = 246 ∨ a = 247
theorem Xa_q : ∀ a j, Xa a j → Xq a j := by
  intro a j h; unfold Xa at h; unfold Xq; omega
theorem Xv_a : ∀ a j, Xv a j → Xa a j := by
  intro a j h; unfold Xv at h; unfold Xa; omega
theorem Xg_a : ∀ a j, Xg a j → Xa a j := by
  intro a j h; unfold Xg at h; unfold Xa; omega
theorem FlR.xa {st : Nat → Option Nat} {cp : Nat → Nat} {τ : ah_H} (h : FlR σ D st cp) (g : Fr Xa σ τ) : FlR τ D st cp := h.fr g (fun a j _ _ => by unfold Xa; omega)
theorem m_pumpD (h : MInv σ D) (hn : ah_I σ 225 42 = nI 0) (hF : FlR σ D (stD D) plain) {c s : Nat} (hc : c < nC D) (hx : stD D c = some s) {β : Type} (g : Int64 × ah_H → Option β) (P : β → Prop) (hg : ∀ τ, Fr Xa σ τ → Ok (g (iL (pumpD D c), τ)) P) : Ok ((f_X12_liftOf 225 (nI c) σ).bind fun r5 => (f_X12_greatest 225 (nI c) r5.2).bind fun r6 => (f_X12_pumpBy 225 r5.1 r6.1 r6.2).bind g) P := by
  rw [m_liftOf h hn hc hx, bd_s]
  obtain ⟨⟨r3, r4⟩, j1, j2, j3, -⟩ := m_greatest h hF hc
  have j2 : r3 = _ := j2
  subst j2
  rw [j1, bd_s]
  have hb := gmx_b (st := stD D) (cp := plain) h.t hc
  obtain ⟨⟨r5, r6⟩, i1, i2, i3⟩ := m_pumpBy (h.q (j3.mono Xg_q)) (l := lft D c) (f := gmx D (stD D) plain c) (lft_b h c) (by omega) (by omega)
  have i2 : r5 = _ := i2
  subst i2
  rw [i1, bd_s]
  exact hg r6 ((j3.mono Xg_a).trans (i3.mono Xv_a))
theorem m_all19 (h0 : MInv σ D) (hn0 : ah_I σ 225 42 = nI 0) (hF0 : FlR σ D (stD D) plain) : ∀ m k fu τ, k + m = nC D → m < fu → Fr Xa σ τ → Ok (f_X12_all_19 fu 225 (iL (alv D k)) (nI k) τ) (fun r => r.1 = iL (alv D (nC D)) ∧ Fr Xa σ r.2) := by
  have b1 := h0.bd
  intro m
  induction m with
  | zero =>
    intro k fu τ hk hf hfr
    obtain ⟨fu, rfl⟩ : ∃ q, fu = q + 1 := ⟨fu - 1, by omega⟩
    obtain rfl : k = nC D := by omega
    have h := h0.q (hfr.mono Xa_q)
    have hw := h.w
    show Ok (f_X12_all_19_b _ _ _ _ _) _
    unfold f_X12_all_19_b
    simp only [to_bq, l_0, l_1, l_2, l_3, l_4, l_5, l_6, l_7, l_8, l_9, l_10, l_11, l_12, l_13, l_14, l_15, l_16, l_17, l_18, l_19, l_20, l_21, l_22, l_23, l_24, l_25, l_26, l_27, l_28, l_29, l_30, l_31, l_32, l_40, l_41, l_42, l_43, l_44, l_45, l_46, l_47, l_48, l_49, l_50, l_51, l_52, l_53, l_54, l_55, l_56, l_57, l_58, l_59, l_60, l_61, l_62, l_63, l_64, l_72, l_97, l_99, l_100, l_104, l_120, l_122, l_128, l_140, l_255, l_256, l_257, l_258, l_260, l_261, l_262, l_364, l_680, l_700, l_701, l_840, l_999, l_1023, l_1024, l_9999, l_10000, l_1000000, lm]
    simp (disch := first | (with_reducible assumption) | omega | exact ⟨by omega, by omega⟩ | ((with_reducible first | apply Wf.wI | apply Wf.wL | apply Wf.fL | apply Wf.fI | apply Wf.fr); (repeat (with_reducible first | assumption | apply Wf.wI | apply Wf.wL | apply Wf.fL | apply Wf.fI | apply Wf.fr)))) only [ck_225, gI_225, gL_225, pI_225, pZ0_225, pZ1_225, pL_225, gR_225_1, gR_225_3, gR_225_4, gR_225_5, gR_225_6, gR_225_7, gR_225_8, gR_225_9, gR_225_10, gR_225_11, gR_225_12, gR_225_13, gR_225_14, gR_225_15, gR_225_16, gR_225_17, gR_225_18, gR_225_19, gR_225_20, gR_225_21, gR_225_35, gR_225_36, gR_225_38, gR_225_39, gR_225_40, gR_225_41, gR_225_43, gR_225_44, gR_225_45, gR_225_48, gR_225_49, gR_225_50, gR_225_51, gR_225_53, gR_225_54, gR_225_55, gR_225_56, gR_225_58, gR_225_59, gR_225_60, gR_225_61, gR_225_62, gR_225_63, gR_225_66, gR_225_67, bq_s, bd_s, mp_s, rz_0, rz_1, bI_rz, zadd, zmul, zsub, le_nI, lt_nI, eq_nI, neg_nI, gen_nI, neg_lt, neg_le, neg_lt', neg_le', nI_lt0, if_true, if_false, ite_true, ite_false, reduceIte, not_true, not_false, and_true, true_and, and_false, false_and, or_true, true_or, or_false, false_or, eq_self, aI_227, rd_C h, Nat.le_refl]
    exact ⟨_, rfl, rfl, hfr⟩
  | succ m ih =>
    intro k fu τ hk hf hfr
    obtain ⟨fu, rfl⟩ : ∃ q, fu = q + 1 := ⟨fu - 1, by omega⟩
    have h := h0.q (hfr.mono Xa_q)
    have hw := h.w
    have hk' : k < nC D := by omega
    have hn : ah_I τ 225 42 = nI 0 := (hfr.I (by unfold Xa; omega)).trans hn0
    have hF := hF0.xa hfr
    show Ok (f_X12_all_19_b _ _ _ _ _) _
    unfold f_X12_all_19_b f_X12_all_60
    simp only [to_bq, l_0, l_1, l_2, l_3, l_4, l_5, l_6, l_7, l_8, l_9, l_10, l_11, l_12, l_13, l_14, l_15, l_16, l_17, l_18, l_19, l_20, l_21, l_22, l_23, l_24, l_25, l_26, l_27, l_28, l_29, l_30, l_31, l_32, l_40, l_41, l_42, l_43, l_44, l_45, l_46, l_47, l_48, l_49, l_50, l_51, l_52, l_53, l_54, l_55, l_56, l_57, l_58, l_59, l_60, l_61, l_62, l_63, l_64, l_72, l_97, l_99, l_100, l_104, l_120, l_122, l_128, l_140, l_255, l_256, l_257, l_258, l_260, l_261, l_262, l_364, l_680, l_700, l_701, l_840, l_999, l_1023, l_1024, l_9999, l_10000, l_1000000, lm]
    simp (disch := first | (with_reducible assumption) | omega | exact ⟨by omega, by omega⟩ | ((with_reducible first | apply Wf.wI | apply Wf.wL | apply Wf.fL | apply Wf.fI | apply Wf.fr); (repeat (with_reducible first | assumption | apply Wf.wI | apply Wf.wL | apply Wf.fL | apply Wf.fI | apply Wf.fr)))) only [ck_225, gI_225, gL_225, pI_225, pZ0_225, pZ1_225, pL_225, gR_225_1, gR_225_3, gR_225_4, gR_225_5, gR_225_6, gR_225_7, gR_225_8, gR_225_9, gR_225_10, gR_225_11, gR_225_12, gR_225_13, gR_225_14, gR_225_15, gR_225_16, gR_225_17, gR_225_18, gR_225_19, gR_225_20, gR_225_21, gR_225_35, gR_225_36, gR_225_38, gR_225_39, gR_225_40, gR_225_41, gR_225_43, gR_225_44, gR_225_45, gR_225_48, gR_225_49, gR_225_50, gR_225_51, gR_225_53, gR_225_54, gR_225_55, gR_225_56, gR_225_58, gR_225_59, gR_225_60, gR_225_61, gR_225_62, gR_225_63, gR_225_66, gR_225_67, bq_s, bd_s, mp_s, rz_0, rz_1, bI_rz, zadd, zmul, zsub, le_nI, lt_nI, eq_nI, neg_nI, gen_nI, neg_lt, neg_le, neg_lt', neg_le', nI_lt0, if_true, if_false, ite_true, ite_false, reduceIte, not_true, not_false, and_true, true_and, and_false, false_and, or_true, true_or, or_false, false_or, eq_self, aI_227, rd_C h, show (nC D ≤ k) = False from eq_false (by omega), m_isLaid h (h.st0 hn) hk', bI_0, ite_n]
    have e1 : alv D (k + 1) = if stD D k = none then alv D k else alv D k + (costD D k + pumpD D k) := rfl
    cases hx : stD D k with
    | none =>
      rw [if_pos hx] at e1
      simp only [ne_eq, not_true_eq_false, if_true, if_false, ite_true, ite_false, reduceIte, not_true, not_false, and_true, true_and, and_false, false_and, or_true, true_or, or_false, false_or, eq_self]
      rw [← e1]
      exact ih (k + 1) fu τ (by omega) (by omega) hfr
    | some s =>
      rw [if_neg (by rw [hx]; intro q; cases q)] at e1
      simp only [ne_eq, reduceCtorEq, if_true, if_false, ite_true, ite_false, reduceIte, not_true, not_false, and_true, true_and, and_false, false_and, or_true, true_or, or_false, false_or, eq_self]
      obtain ⟨⟨r1, r2⟩, k1, k2, k3⟩ := m_costOf h hn hk' hx
      have k2 : r1 = _ := k2
      subst k2
      rw [k1, bq_s]
      have h3 := h.q (k3.mono Xv_q)
      have hn3 : ah_I r2 225 42 = nI 0 := (k3.I (by unfold Xv; omega)).trans hn
      refine m_pumpD h3 hn3 (hF.xa (k3.mono Xv_a)) hk' hx _ _ (fun ρ hρ => ?_)
      show Ok (f_X12_all_19 fu 225 (iL (alv D k) + (iL (costD D k) + iL (pumpD D k))) (nI k + nI 1) ρ) _
      rw [iadd, iadd, zadd, ← e1]
      exact ih (k + 1) fu ρ (by omega) (by omega) (hfr.trans ((k3.mono Xv_a).trans hρ))
noncomputable def sAll (D : DD) : Int64 := iL (alv D (nC D))
theorem m_all (h : MInv σ D) : Ok (f_X12_all 225 σ) (fun r => r.1 = sAll D ∧ Fr Xq σ r.2) := by
  have hw := h.w
  have b1 := h.bd
  have f2 : Fr Xq σ (ah_wI (ah_wI σ 225 0 (nI 0)) 225 42 (nI 0)) := (Fr.q0 (by omega)).trans (Fr.q0 (by omega))
  have h2 := h.q f2
  unfold f_X12_all f_X12_all_0
  simp only [to_bq, l_0, l_1, l_2, l_3, l_4, l_5, l_6, l_7, l_8, l_9, l_10, l_11, l_12, l_13, l_14, l_15, l_16, l_17, l_18, l_19, l_20, l_21, l_22, l_23, l_24, l_25, l_26, l_27, l_28, l_29, l_30, l_31, l_32, l_40, l_41, l_42, l_43, l_44, l_45, l_46, l_47, l_48, l_49, l_50, l_51, l_52, l_53, l_54, l_55, l_56, l_57, l_58, l_59, l_60, l_61, l_62, l_63, l_64, l_72, l_97, l_99, l_100, l_104, l_120, l_122, l_128, l_140, l_255, l_256, l_257, l_258, l_260, l_261, l_262, l_364, l_680, l_700, l_701, l_840, l_999, l_1023, l_1024, l_9999, l_10000, l_1000000, lm]
  simp (disch := first | (with_reducible assumption) | omega | exact ⟨by omega, by omega⟩ | ((with_reducible first | apply Wf.wI | apply Wf.wL | apply Wf.fL | apply Wf.fI | apply Wf.fr); (repeat (with_reducible first | assumption | apply Wf.wI | apply Wf.wL | apply Wf.fL | apply Wf.fI | apply Wf.fr)))) only [ck_225, gI_225, gL_225, pI_225, pZ0_225, pZ1_225, pL_225, gR_225_1, gR_225_3, gR_225_4, gR_225_5, gR_225_6, gR_225_7, gR_225_8, gR_225_9, gR_225_10, gR_225_11, gR_225_12, gR_225_13, gR_225_14, gR_225_15, gR_225_16, gR_225_17, gR_225_18, gR_225_19, gR_225_20, gR_225_21, gR_225_35, gR_225_36, gR_225_38, gR_225_39, gR_225_40, gR_225_41, gR_225_43, gR_225_44, gR_225_45, gR_225_48, gR_225_49, gR_225_50, gR_225_51, gR_225_53, gR_225_54, gR_225_55, gR_225_56, gR_225_58, gR_225_59, gR_225_60, gR_225_61, gR_225_62, gR_225_63, gR_225_66, gR_225_67, bq_s, bd_s, mp_s, rz_0, rz_1, bI_rz]
  obtain ⟨ρ, g1, g2, g3⟩ := m_run0 h2 (h2.st0 rI_eq)
  rw [g1, bq_s, q_0]
  have h3 := h2.q (g2.mono Xr_q)
  exact (m_all19 h3 ((g2.I (by unfold Xr; omega)).trans rI_eq) g3 (nC D) 0 5000 ρ (by omega) (by omega) Fr.rfl).mono (fun r q => ⟨q.1, f2.trans ((g2.mono Xr_q).trans (q.2.mono Xa_q))⟩)
/-- covered; the first law that a pipe breaks -/
theorem m_isCovered (h : MInv σ D) {d : Nat} (hd : d ≤ 12) : f_X12_isCovered 225 (nI d) σ = some (bI (¬ d < lc D ∧ ¬ mc D < d), σ) := by
  have hw := h.w
  have b1 := h.bd
  unfold f_X12_isCovered f_X12_isCovered_0
  simp only [to_bq, l_0, l_1, l_2, l_3, l_4, l_5, l_6, l_7, l_8, l_9, l_10, l_11, l_12, l_13, l_14, l_15, l_16, l_17, l_18, l_19, l_20, l_21, l_22, l_23, l_24, l_25, l_26, l_27, l_28, l_29, l_30, l_31, l_32, l_40, l_41, l_42, l_43, l_44, l_45, l_46, l_47, l_48, l_49, l_50, l_51, l_52, l_53, l_54, l_55, l_56, l_57, l_58, l_59, l_60, l_61, l_62, l_63, l_64, l_72, l_97, l_99, l_100, l_104, l_120, l_122, l_128, l_140, l_255, l_256, l_257, l_258, l_260, l_261, l_262, l_364, l_680, l_700, l_701, l_840, l_999, l_1023, l_1024, l_9999, l_10000, l_1000000, lm]
  simp (disch := first | (with_reducible assumption) | omega | exact ⟨by omega, by omega⟩ | ((with_reducible first | apply Wf.wI | apply Wf.wL | apply Wf.fL | apply Wf.fI | apply Wf.fr); (repeat (with_reducible first | assumption | apply Wf.wI | apply Wf.wL | apply Wf.fL | apply Wf.fI | apply Wf.fr)))) only [ck_225, gI_225, gL_225, pI_225, pZ0_225, pZ1_225, pL_225, gR_225_1, gR_225_3, gR_225_4, gR_225_5, gR_225_6, gR_225_7, gR_225_8, gR_225_9, gR_225_10, gR_225_11, gR_225_12, gR_225_13, gR_225_14, gR_225_15, gR_225_16, gR_225_17, gR_225_18, gR_225_19, gR_225_20, gR_225_21, gR_225_35, gR_225_36, gR_225_38, gR_225_39, gR_225_40, gR_225_41, gR_225_43, gR_225_44, gR_225_45, gR_225_48, gR_225_49, gR_225_50, gR_225_51, gR_225_53, gR_225_54, gR_225_55, gR_225_56, gR_225_58, gR_225_59, gR_225_60, gR_225_61, gR_225_62, gR_225_63, gR_225_66, gR_225_67, bq_s, bd_s, mp_s, rz_0, rz_1, bI_rz, zadd, zmul, zsub, le_nI, lt_nI, eq_nI, neg_nI, gen_nI, neg_lt, neg_le, neg_lt', neg_le', nI_lt0, aI_227, rd_lc h, rd_mc h]
  exact bI_two _ _ _
def wdr (D : DD) (c k : Nat) : Prop := ∃ o, k ≤ o ∧ o < nC D ∧ nx D (stD D) o = some c ∧ pD D c < pD D o
noncomputable def brk (D : DD) (c s : Nat) : Nat :=
  if ¬ (¬ aD D c < lc D ∧ ¬ mc D < aD D c) then 1 else if ¬ (¬ bD D c < lc D ∧ ¬ mc D < bD D c) then 1 else if (len D s * lf D : Int) ≤ fallZ D c s then (if fallZ D c s ≤ (len D s * mf D : Int) then cif (wdr D c 0) 4 (if lft D c = 0 ∨ told D 2 then (if (gmx D (stD D) plain c : Int) ≤ carD D c then 0 else 6) else 5) else 3) else 2
theorem wid_lt (ht : MT D) {p q : Nat} (hp : p < nP D) (hq : q < nP D) : wid D q ≤ wid D p ↔ q ≤ p := by
  constructor
  · intro h
    apply Classical.byContradiction
    intro r
    have := ht.qwidlt hq (show p < q by omega)
    omega
  · intro h
    by_cases q1 : q = p
    · subst q1; exact Nat.le_refl _
    · have := ht.qwidlt hp (show q < p by omega)
      omega
theorem m_br82 (h : MInv σ D) (hn : ah_I σ 225 42 = nI 0) {c s : Nat} (hc : c < nC D) (hx : stD D c = some s) : ∀ m k fu, k + m = nC D → m < fu → f_X12_breaks_82 fu 225 (nI c) (nI k) σ = cif (wdr D c k) (some (nI 4, σ)) (f_X12_breaks_132 225 (nI c) σ) := by
  have hw := h.w
  have b1 := h.bd
  have hst := h.st0 hn
  have hpc := (h.lb hc hx).2.2.2.1
  intro m
  induction m with
  | zero =>
    intro k fu hk hf
    obtain ⟨fu, rfl⟩ : ∃ q, fu = q + 1 := ⟨fu - 1, by omega⟩
    show f_X12_breaks_82_b _ _ _ _ _ = _
    unfold f_X12_breaks_82_b
    simp only [to_bq, l_0, l_1, l_2, l_3, l_4, l_5, l_6, l_7, l_8, l_9, l_10, l_11, l_12, l_13, l_14, l_15, l_16, l_17, l_18, l_19, l_20, l_21, l_22, l_23, l_24, l_25, l_26, l_27, l_28, l_29, l_30, l_31, l_32, l_40, l_41, l_42, l_43, l_44, l_45, l_46, l_47, l_48, l_49, l_50, l_51, l_52, l_53, l_54, l_55, l_56, l_57, l_58, l_59, l_60, l_61, l_62, l_63, l_64, l_72, l_97, l_99, l_100, l_104, l_120, l_122, l_128, l_140, l_255, l_256, l_257, l_258, l_260, l_261, l_262, l_364, l_680, l_700, l_701, l_840, l_999, l_1023, l_1024, l_9999, l_10000, l_1000000, lm]
    simp (disch := first | (with_reducible assumption) | omega | exact ⟨by omega, by omega⟩ | ((with_reducible first | apply Wf.wI | apply Wf.wL | apply Wf.fL | apply Wf.fI | apply Wf.fr); (repeat (with_reducible first | assumption | apply Wf.wI | apply Wf.wL | apply Wf.fL | apply Wf.fI | apply Wf.fr)))) only [ck_225, gI_225, gL_225, pI_225, pZ0_225, pZ1_225, pL_225, gR_225_1, gR_225_3, gR_225_4, gR_225_5, gR_225_6, gR_225_7, gR_225_8, gR_225_9, gR_225_10, gR_225_11, gR_225_12, gR_225_13, gR_225_14, gR_225_15, gR_225_16, gR_225_17, gR_225_18, gR_225_19, gR_225_20, gR_225_21, gR_225_35, gR_225_36, gR_225_38, gR_225_39, gR_225_40, gR_225_41, gR_225_43, gR_225_44, gR_225_45, gR_225_48, gR_225_49, gR_225_50, gR_225_51, gR_225_53, gR_225_54, gR_225_55, gR_225_56, gR_225_58, gR_225_59, gR_225_60, gR_225_61, gR_225_62, gR_225_63, gR_225_66, gR_225_67, bq_s, bd_s, mp_s, rz_0, rz_1, bI_rz, zadd, zmul, zsub, le_nI, lt_nI, eq_nI, neg_nI, gen_nI, neg_lt, neg_le, neg_lt', neg_le', nI_lt0, if_true, if_false, ite_true, ite_false, reduceIte, not_true, not_false, and_true, true_and, and_false, false_and, or_true, true_or, or_false, false_or, eq_self, aI_227, rd_C h, show (nC D ≤ k) = True from eq_true (by omega)]
    rw [cif_f]
    rintro ⟨o, h1, h2, -⟩
    omega
  | succ m ih =>
    intro k fu hk hf
    obtain ⟨fu, rfl⟩ : ∃ q, fu = q + 1 := ⟨fu - 1, by omega⟩
    have hk' : k < nC D := by omega
    have hi := ih (k + 1) fu (by omega) (by omega)
    show f_X12_breaks_82_b _ _ _ _ _ = _
    unfold f_X12_breaks_82_b f_X12_breaks_126
    simp only [to_bq, l_0, l_1, l_2, l_3, l_4, l_5, l_6, l_7, l_8, l_9, l_10, l_11, l_12, l_13, l_14, l_15, l_16, l_17, l_18, l_19, l_20, l_21, l_22, l_23, l_24, l_25, l_26, l_27, l_28, l_29, l_30, l_31, l_32, l_40, l_41, l_42, l_43, l_44, l_45, l_46, l_47, l_48, l_49, l_50, l_51, l_52, l_53, l_54, l_55, l_56, l_57, l_58, l_59, l_60, l_61, l_62, l_63, l_64, l_72, l_97, l_99, l_100, l_104, l_120, l_122, l_128, l_140, l_255, l_256, l_257, l_258, l_260, l_261, l_262, l_364, l_680, l_700, l_701, l_840, l_999, l_1023, l_1024, l_9999, l_10000, l_1000000, lm]
    simp (disch := first | (with_reducible assumption) | omega | exact ⟨by omega, by omega⟩ | ((with_reducible first | apply Wf.wI | apply Wf.wL | apply Wf.fL | apply Wf.fI | apply Wf.fr); (repeat (with_reducible first | assumption | apply Wf.wI | apply Wf.wL | apply Wf.fL | apply Wf.fI | apply Wf.fr)))) only [ck_225, gI_225, gL_225, pI_225, pZ0_225, pZ1_225, pL_225, gR_225_1, gR_225_3, gR_225_4, gR_225_5, gR_225_6, gR_225_7, gR_225_8, gR_225_9, gR_225_10, gR_225_11, gR_225_12, gR_225_13, gR_225_14, gR_225_15, gR_225_16, gR_225_17, gR_225_18, gR_225_19, gR_225_20, gR_225_21, gR_225_35, gR_225_36, gR_225_38, gR_225_39, gR_225_40, gR_225_41, gR_225_43, gR_225_44, gR_225_45, gR_225_48, gR_225_49, gR_225_50, gR_225_51, gR_225_53, gR_225_54, gR_225_55, gR_225_56, gR_225_58, gR_225_59, gR_225_60, gR_225_61, gR_225_62, gR_225_63, gR_225_66, gR_225_67, bq_s, bd_s, mp_s, rz_0, rz_1, bI_rz, zadd, zmul, zsub, le_nI, lt_nI, eq_nI, neg_nI, gen_nI, neg_lt, neg_le, neg_lt', neg_le', nI_lt0, if_true, if_false, ite_true, ite_false, reduceIte, not_true, not_false, and_true, true_and, and_false, false_and, or_true, true_or, or_false, false_or, eq_self, aI_227, rd_C h, show (nC D ≤ k) = False from eq_false (by omega), m_runsTo h hst hk' hc, bI_0, ite_n]
    have nxt : ¬ (nx D (stD D) k = some c ∧ pD D c < pD D k) → f_X12_breaks_82 fu 225 (nI c) (nI (k + 1)) σ = cif (wdr D c k) (some (nI 4, σ)) (f_X12_breaks_132 225 (nI c) σ) := by
      intro q
      rw [hi]
      have : wdr D c (k + 1) ↔ wdr D c k := by
        constructor
        · rintro ⟨o, h1, h2⟩; exact ⟨o, by omega, h2⟩
        · rintro ⟨o, h1, h2, h3⟩
          by_cases e : o = k
          · subst e; exact absurd h3 q
          · exact ⟨o, by omega, h2, h3⟩
      rw [propext this]
    by_cases q : nx D (stD D) k = some c
    · rw [if_pos q]
      obtain ⟨s', hs', -⟩ := nx_st q
      have hpk := (h.lb hk' hs').2.2.2.1
      have w1 := h.t.qwid99 hpk
      have w2 := h.t.qwid99 hpc
      simp (disch := first | (with_reducible assumption) | omega | exact ⟨by omega, by omega⟩ | ((with_reducible first | apply Wf.wI | apply Wf.wL | apply Wf.fL | apply Wf.fI | apply Wf.fr); (repeat (with_reducible first | assumption | apply Wf.wI | apply Wf.wL | apply Wf.fL | apply Wf.fI | apply Wf.fr)))) only [ck_225, gI_225, gL_225, pI_225, pZ0_225, pZ1_225, pL_225, gR_225_1, gR_225_3, gR_225_4, gR_225_5, gR_225_6, gR_225_7, gR_225_8, gR_225_9, gR_225_10, gR_225_11, gR_225_12, gR_225_13, gR_225_14, gR_225_15, gR_225_16, gR_225_17, gR_225_18, gR_225_19, gR_225_20, gR_225_21, gR_225_35, gR_225_36, gR_225_38, gR_225_39, gR_225_40, gR_225_41, gR_225_43, gR_225_44, gR_225_45, gR_225_48, gR_225_49, gR_225_50, gR_225_51, gR_225_53, gR_225_54, gR_225_55, gR_225_56, gR_225_58, gR_225_59, gR_225_60, gR_225_61, gR_225_62, gR_225_63, gR_225_66, gR_225_67, bq_s, bd_s, mp_s, rz_0, rz_1, bI_rz, zadd, zmul, zsub, le_nI, lt_nI, eq_nI, neg_nI, gen_nI, neg_lt, neg_le, neg_lt', neg_le', nI_lt0, m_pO h hn hk' hs', m_pO h hn hc hx, aI_237, rd_wid h, wid_lt h.t]
      by_cases q2 : pD D k ≤ pD D c
      · rw [if_pos q2]
        exact nxt (fun r => by omega)
      · rw [if_neg q2, cif_t ⟨k, Nat.le_refl _, hk', q, by omega⟩]
    · rw [if_neg q]
      exact nxt (fun r => q r.1)
theorem m_breaks (h : MInv σ D) (hn : ah_I σ 225 42 = nI 0) (hF : FlR σ D (stD D) plain) {c s : Nat} (hc : c < nC D) (hx : stD D c = some s) : Ok (f_X12_breaks 225 (nI c) σ) (fun r => r.1 = nI (brk D c s) ∧ Fr Xa σ r.2) := by
  have hw := h.w
  have b1 := h.bd
  obtain ⟨l1, l2, l3, l4, l5, l6, -⟩ := h.lb hc hx
  obtain ⟨g0, g1, g2⟩ := sFall_z h.t h.n (show c < 7 by omega) hx
  have b3 := h.t.qlen1 l1
  have b4 := h.t.qlen99 l1
  have m1 : len D s * lf D ≤ 99 * 99 := Nat.mul_le_mul b4 (by omega)
  have m2 : len D s * mf D ≤ 99 * 99 := Nat.mul_le_mul b4 (by omega)
  have jl : ∀ x : Nat, x ≤ 99 * 99 → (nI x ≤ jI (fallZ D c s)) = ((x : Int) ≤ fallZ D c s) := fun x hx => by
    rw [jI_n, jle ⟨by omega, by omega⟩ ⟨by omega, by omega⟩]
  have jl2 : ∀ x : Nat, x ≤ 99 * 99 → (jI (fallZ D c s) ≤ nI x) = (fallZ D c s ≤ (x : Int)) := fun x hx => by
    rw [jI_n, jle ⟨by omega, by omega⟩ ⟨by omega, by omega⟩]
  unfold f_X12_breaks f_X12_breaks_0 brk
  simp only [to_bq, l_0, l_1, l_2, l_3, l_4, l_5, l_6, l_7, l_8, l_9, l_10, l_11, l_12, l_13, l_14, l_15, l_16, l_17, l_18, l_19, l_20, l_21, l_22, l_23, l_24, l_25, l_26, l_27, l_28, l_29, l_30, l_31, l_32, l_40, l_41, l_42, l_43, l_44, l_45, l_46, l_47, l_48, l_49, l_50, l_51, l_52, l_53, l_54, l_55, l_56, l_57, l_58, l_59, l_60, l_61, l_62, l_63, l_64, l_72, l_97, l_99, l_100, l_104, l_120, l_122, l_128, l_140, l_255, l_256, l_257, l_258, l_260, l_261, l_262, l_364, l_680, l_700, l_701, l_840, l_999, l_1023, l_1024, l_9999, l_10000, l_1000000, lm]
  simp (disch := first | (with_reducible assumption) | omega | exact ⟨by omega, by omega⟩ | ((with_reducible first | apply Wf.wI | apply Wf.wL | apply Wf.fL | apply Wf.fI | apply Wf.fr); (repeat (with_reducible first | assumption | apply Wf.wI | apply Wf.wL | apply Wf.fL | apply Wf.fI | apply Wf.fr)))) only [ck_225, gI_225, gL_225, pI_225, pZ0_225, pZ1_225, pL_225, gR_225_1, gR_225_3, gR_225_4, gR_225_5, gR_225_6, gR_225_7, gR_225_8, gR_225_9, gR_225_10, gR_225_11, gR_225_12, gR_225_13, gR_225_14, gR_225_15, gR_225_16, gR_225_17, gR_225_18, gR_225_19, gR_225_20, gR_225_21, gR_225_35, gR_225_36, gR_225_38, gR_225_39, gR_225_40, gR_225_41, gR_225_43, gR_225_44, gR_225_45, gR_225_48, gR_225_49, gR_225_50, gR_225_51, gR_225_53, gR_225_54, gR_225_55, gR_225_56, gR_225_58, gR_225_59, gR_225_60, gR_225_61, gR_225_62, gR_225_63, gR_225_66, gR_225_67, bq_s, bd_s, mp_s, rz_0, rz_1, bI_rz, m_sO h hn hc hx, m_aO h hn hc hx, m_bO h hn hc hx, m_isCovered h, bI_0]
  by_cases q1 : ¬ (¬ aD D c < lc D ∧ ¬ mc D < aD D c)
  · rw [if_pos q1, if_pos q1]; exact ⟨_, rfl, rfl, Fr.rfl⟩
  rw [if_neg q1, if_neg q1]
  by_cases q2 : ¬ (¬ bD D c < lc D ∧ ¬ mc D < bD D c)
  · rw [if_pos q2, if_pos q2]; exact ⟨_, rfl, rfl, Fr.rfl⟩
  rw [if_neg q2, if_neg q2]
  simp (disch := first | (with_reducible assumption) | omega | exact ⟨by omega, by omega⟩ | ((with_reducible first | apply Wf.wI | apply Wf.wL | apply Wf.fL | apply Wf.fI | apply Wf.fr); (repeat (with_reducible first | assumption | apply Wf.wI | apply Wf.wL | apply Wf.fL | apply Wf.fI | apply Wf.fr)))) only [ck_225, gI_225, gL_225, pI_225, pZ0_225, pZ1_225, pL_225, gR_225_1, gR_225_3, gR_225_4, gR_225_5, gR_225_6, gR_225_7, gR_225_8, gR_225_9, gR_225_10, gR_225_11, gR_225_12, gR_225_13, gR_225_14, gR_225_15, gR_225_16, gR_225_17, gR_225_18, gR_225_19, gR_225_20, gR_225_21, gR_225_35, gR_225_36, gR_225_38, gR_225_39, gR_225_40, gR_225_41, gR_225_43, gR_225_44, gR_225_45, gR_225_48, gR_225_49, gR_225_50, gR_225_51, gR_225_53, gR_225_54, gR_225_55, gR_225_56, gR_225_58, gR_225_59, gR_225_60, gR_225_61, gR_225_62, gR_225_63, gR_225_66, gR_225_67, bq_s, bd_s, mp_s, rz_0, rz_1, bI_rz, m_fallOf h hn hc hx, g0, aI_227, aI_234, rd_lf h, rd_mf h, rd_len h, zmul, jl, jl2]
  have c1 : ((len D s * lf D : Nat) : Int) = (len D s * lf D : Int) := Int.natCast_mul _ _
  have c2 : ((len D s * mf D : Nat) : Int) = (len D s * mf D : Int) := Int.natCast_mul _ _
  rw [c1, c2]
  by_cases q3 : (len D s * lf D : Int) ≤ fallZ D c s
  · rw [if_pos q3, if_pos q3]
    by_cases q4 : fallZ D c s ≤ (len D s * mf D : Int)
    · rw [if_pos q4, if_pos q4]
      rw [m_br82 h hn hc hx (nC D) 0 5000 (by omega) (by omega)]
      by_cases q5 : wdr D c 0
      · rw [cif_t q5, cif_t q5]; exact ⟨_, rfl, rfl, Fr.rfl⟩
      rw [cif_f q5, cif_f q5]
      have l12 := lft_b h c
      have last : Ok (f_X12_breaks_150 225 (nI c) σ) (fun r => r.1 = nI (if (gmx D (stD D) plain c : Int) ≤ carD D c then 0 else 6) ∧ Fr Xa σ r.2) := by
        unfold f_X12_breaks_150
        simp only [to_bq, l_0, l_1, l_2, l_3, l_4, l_5, l_6, l_7, l_8, l_9, l_10, l_11, l_12, l_13, l_14, l_15, l_16, l_17, l_18, l_19, l_20, l_21, l_22, l_23, l_24, l_25, l_26, l_27, l_28, l_29, l_30, l_31, l_32, l_40, l_41, l_42, l_43, l_44, l_45, l_46, l_47, l_48, l_49, l_50, l_51, l_52, l_53, l_54, l_55, l_56, l_57, l_58, l_59, l_60, l_61, l_62, l_63, l_64, l_72, l_97, l_99, l_100, l_104, l_120, l_122, l_128, l_140, l_255, l_256, l_257, l_258, l_260, l_261, l_262, l_364, l_680, l_700, l_701, l_840, l_999, l_1023, l_1024, l_9999, l_10000, l_1000000, lm]
        obtain ⟨⟨r3, r4⟩, j1, j2, j3, -⟩ := m_greatest h hF hc
        have j2 : r3 = _ := j2
        subst j2
        rw [j1, bq_s]
        obtain ⟨⟨r5, r6⟩, i1, i2, i3⟩ := m_carriesOf (h.q (j3.mono Xg_q)) ((j3.I (by unfold Xg; omega)).trans hn) hc hx
        have i2 : r5 = _ := i2
        subst i2
        rw [i1, bq_s]
        have hb := gmx_b (st := stD D) (cp := plain) h.t hc
        have hcb := carD_b h.t h.n (show c < 7 by omega)
        simp (disch := first | (with_reducible assumption) | omega | exact ⟨by omega, by omega⟩ | ((with_reducible first | apply Wf.wI | apply Wf.wL | apply Wf.fL | apply Wf.fI | apply Wf.fr); (repeat (with_reducible first | assumption | apply Wf.wI | apply Wf.wL | apply Wf.fL | apply Wf.fI | apply Wf.fr)))) only [l_0, l_1, l_2, l_3, l_4, l_5, l_6, l_7, l_8, l_9, l_10, l_11, l_12, l_13, l_14, l_15, l_16, l_17, l_18, l_19, l_20, l_21, l_22, l_23, l_24, l_25, l_26, l_27, l_28, l_29, l_30, l_31, l_32, l_40, l_41, l_42, l_43, l_44, l_45, l_46, l_47, l_48, l_49, l_50, l_51, l_52, l_53, l_54, l_55, l_56, l_57, l_58, l_59, l_60, l_61, l_62, l_63, l_64, l_72, l_97, l_99, l_100, l_104, l_120, l_122, l_128, l_140, l_255, l_256, l_257, l_258, l_260, l_261, l_262, l_364, l_680, l_700, l_701, l_840, l_999, l_1023, l_1024, l_9999, l_10000, l_1000000, lm, cmp_le]
        by_cases q : (gmx D (stD D) plain c : Int) ≤ carD D c
        · rw [if_pos q, if_pos q]; exact ⟨_, rfl, rfl, (j3.mono Xg_a).trans (i3.mono Xv_a)⟩
        · rw [if_neg q, if_neg q]; exact ⟨_, rfl, rfl, (j3.mono Xg_a).trans (i3.mono Xv_a)⟩
      unfold f_X12_breaks_132
      simp only [to_bq, l_0, l_1, l_2, l_3, l_4, l_5, l_6, l_7, l_8, l_9, l_10, l_11, l_12, l_13, l_14, l_15, l_16, l_17, l_18, l_19, l_20, l_21, l_22, l_23, l_24, l_25, l_26, l_27, l_28, l_29, l_30, l_31, l_32, l_40, l_41, l_42, l_43, l_44, l_45, l_46, l_47, l_48, l_49, l_50, l_51, l_52, l_53, l_54, l_55, l_56, l_57, l_58, l_59, l_60, l_61, l_62, l_63, l_64, l_72, l_97, l_99, l_100, l_104, l_120, l_122, l_128, l_140, l_255, l_256, l_257, l_258, l_260, l_261, l_262, l_364, l_680, l_700, l_701, l_840, l_999, l_1023, l_1024, l_9999, l_10000, l_1000000, lm]
      rw [m_liftOf h hn hc hx, bq_s]
      simp (disch := first | (with_reducible assumption) | omega | exact ⟨by omega, by omega⟩ | ((with_reducible first | apply Wf.wI | apply Wf.wL | apply Wf.fL | apply Wf.fI | apply Wf.fr); (repeat (with_reducible first | assumption | apply Wf.wI | apply Wf.wL | apply Wf.fL | apply Wf.fI | apply Wf.fr)))) only [zadd, zmul, zsub, le_nI, lt_nI, eq_nI, neg_nI, gen_nI, neg_lt, neg_le, neg_lt', neg_le', nI_lt0, Nat.le_zero_eq, m_hasLaw h, bq_s, bd_s, mp_s, rz_0, rz_1, bI_rz, bI_0]
      by_cases q6 : lft D c = 0
      · rw [if_pos q6, if_pos (Or.inl q6)]; exact last
      · rw [if_neg q6]
        by_cases q7 : told D 2
        · rw [if_neg (fun r => r q7), if_pos (Or.inr q7)]; exact last
        · rw [if_pos q7, if_neg (fun r => r.elim q6 q7)]; exact ⟨_, rfl, rfl, Fr.rfl⟩
    · rw [if_neg q4, if_neg q4]; exact ⟨_, rfl, rfl, Fr.rfl⟩
  · rw [if_neg q3, if_neg q3]; exact ⟨_, rfl, rfl, Fr.rfl⟩
noncomputable def sBroken (D : DD) (c : Int32) : Int32 := if okC D c then (match stD D (ix c) with
  | none => mI 2
  | some s => nI (brk D (ix c) s)) else mI 1
theorem m_broken (h : MInv σ D) (c : Int32) : Ok (f_X12_broken 225 c σ) (fun r => r.1 = sBroken D c ∧ Fr Xq σ r.2) := by
  have hw := h.w
  have b1 := h.bd
  have f2 : Fr Xq σ (ah_wI (ah_wI σ 225 0 (nI 0)) 225 42 (nI 0)) := (Fr.q0 (by omega)).trans (Fr.q0 (by omega))
  have h2 := h.q f2
  unfold f_X12_broken f_X12_broken_0 sBroken
  simp only [to_bq, l_0, l_1, l_2, l_3, l_4, l_5, l_6, l_7, l_8, l_9, l_10, l_11, l_12, l_13, l_14, l_15, l_16, l_17, l_18, l_19, l_20, l_21, l_22, l_23, l_24, l_25, l_26, l_27, l_28, l_29, l_30, l_31, l_32, l_40, l_41, l_42, l_43, l_44, l_45, l_46, l_47, l_48, l_49, l_50, l_51, l_52, l_53, l_54, l_55, l_56, l_57, l_58, l_59, l_60, l_61, l_62, l_63, l_64, l_72, l_97, l_99, l_100, l_104, l_120, l_122, l_128, l_140, l_255, l_256, l_257, l_258, l_260, l_261, l_262, l_364, l_680, l_700, l_701, l_840, l_999, l_1023, l_1024, l_9999, l_10000, l_1000000, lm]
  simp (disch := first | (with_reducible assumption) | omega | exact ⟨by omega, by omega⟩ | ((with_reducible first | apply Wf.wI | apply Wf.wL | apply Wf.fL | apply Wf.fI | apply Wf.fr); (repeat (with_reducible first | assumption | apply Wf.wI | apply Wf.wL | apply Wf.fL | apply Wf.fI | apply Wf.fr)))) only [ck_225, gI_225, gL_225, pI_225, pZ0_225, pZ1_225, pL_225, gR_225_1, gR_225_3, gR_225_4, gR_225_5, gR_225_6, gR_225_7, gR_225_8, gR_225_9, gR_225_10, gR_225_11, gR_225_12, gR_225_13, gR_225_14, gR_225_15, gR_225_16, gR_225_17, gR_225_18, gR_225_19, gR_225_20, gR_225_21, gR_225_35, gR_225_36, gR_225_38, gR_225_39, gR_225_40, gR_225_41, gR_225_43, gR_225_44, gR_225_45, gR_225_48, gR_225_49, gR_225_50, gR_225_51, gR_225_53, gR_225_54, gR_225_55, gR_225_56, gR_225_58, gR_225_59, gR_225_60, gR_225_61, gR_225_62, gR_225_63, gR_225_66, gR_225_67, bq_s, bd_s, mp_s, rz_0, rz_1, bI_rz, m_isCorner h2, bI_0, ite_n]
  by_cases q : okC D c
  · rw [if_pos q, if_pos q]
    obtain ⟨k, hk, rfl⟩ := okC_of h.t q
    rw [ix_nI (by omega)]
    simp (disch := first | (with_reducible assumption) | omega | exact ⟨by omega, by omega⟩ | ((with_reducible first | apply Wf.wI | apply Wf.wL | apply Wf.fL | apply Wf.fI | apply Wf.fr); (repeat (with_reducible first | assumption | apply Wf.wI | apply Wf.wL | apply Wf.fL | apply Wf.fI | apply Wf.fr)))) only [m_isLaid h2 (h2.st0 rI_eq) hk, bq_s, bd_s, mp_s, rz_0, rz_1, bI_rz, bI_0, ite_n]
    cases hx : stD D k with
    | none =>
      simp only [ne_eq, not_true_eq_false, if_true, if_false, ite_true, ite_false, reduceIte, not_true, not_false, and_true, true_and, and_false, false_and, or_true, true_or, or_false, false_or, eq_self, lm]
      exact ⟨_, rfl, rfl, f2⟩
    | some s =>
      simp only [ne_eq, reduceCtorEq, if_true, if_false, ite_true, ite_false, reduceIte, not_true, not_false, and_true, true_and, and_false, false_and, or_true, true_or, or_false, false_or, eq_self]
      obtain ⟨ρ, g1, g2, g3⟩ := m_run0 h2 (h2.st0 rI_eq)
      rw [g1, bq_s]
      have h3 := h2.q (g2.mono Xr_q)
      obtain ⟨⟨r1, r2⟩, k1, k2, k3⟩ := m_breaks h3 ((g2.I (by unfold Xr; omega)).trans rI_eq) g3 hk hx
      rw [k1, bq_s]
      exact ⟨_, rfl, k2, f2.trans ((g2.mono Xr_q).trans (k3.mono Xa_q))⟩
  · rw [if_neg q, if_neg q]
    exact ⟨_, rfl, rfl, f2⟩
end
