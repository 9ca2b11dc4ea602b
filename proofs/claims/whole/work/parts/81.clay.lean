/-! THE CLASS: the ends of a pipe, whole -/
noncomputable def ownC (D : DD) (st : Nat → Option Nat) (Q : Nat → Int) (c w a b : Nat) : VV := cif (nx D st c = some (riv D) ∧ (hgt D (riv D) : Int) - b < lev D) none (own D st Q noF noF noF (kyD D) c w a b)
noncomputable def dpC (D : DD) (st : Nat → Option Nat) : DPr := (nC D, mc D, nx D st, ownC D st (gq D st), pmv D (gq D st))
theorem dpC_q (D : DD) (st : Nat → Option Nat) : Pq (dpC D st) D st (gq D st) ∧ dpo (dpC D st) = ownC D st (gq D st) := ⟨⟨⟨rfl, rfl⟩, rfl, rfl⟩, rfl⟩
def uD (D : DD) (c : Nat) : Nat := 2 ^ (10 * (5 - (if riv D < c then c - 1 else c)))
/-- how deep the far end may lie -/
def hiD (D : DD) (c s a : Nat) : Int := if oth D s c = riv D then min (min (mc D : Int) ((len D s : Int) * mf D - ((hgt D c : Int) - a - hgt D (oth D s c)))) ((hgt D (oth D s c) : Int) - lev D) else min (mc D : Int) ((len D s : Int) * mf D - ((hgt D c : Int) - a - hgt D (oth D s c)))
def loD (D : DD) (c s a : Nat) : Nat := (max (lc D : Int) ((len D s : Int) * lf D - ((hgt D c : Int) - a - hgt D (oth D s c)))).toNat
section
variable {D : DD} {st : Nat → Option Nat} {c w a s : Nat}
theorem ownC_eq (hs : st c = some s) (hw : w < nP D) (ha : lc D ≤ a) (ha2 : a ≤ mc D) {b : Nat} (hb : lc D ≤ b) (hb2 : b ≤ mc D) : ownC D st (gq D st) c w a b = cif (loD D c s a ≤ b ∧ (b : Int) ≤ hiD D c s a ∧ gq D st c ≤ carv D (wid D w) ((((hgt D c : Int) - a - hgt D (oth D s c)) + b).tdiv (len D s))) (some ((costv D c w s a b).toNat, (w * 256 + a * 16 + b) * uD D c)) none := by
  have hnx : nx D st c = some (oth D s c) := by unfold nx; rw [hs]; rfl
  have hlo : loD D c s a ≤ b ↔ (len D s : Int) * lf D ≤ ((hgt D c : Int) - a - hgt D (oth D s c)) + b := by unfold loD; omega
  have hfv : fallv D c s a b = ((hgt D c : Int) - a - hgt D (oth D s c)) + b := rfl
  have eo : own D st (gq D st) noF noF noF (kyD D) c w a b = cif ((len D s : Int) * lf D ≤ ((hgt D c : Int) - a - hgt D (oth D s c)) + b ∧ ((hgt D c : Int) - a - hgt D (oth D s c)) + b ≤ (len D s : Int) * mf D ∧ gq D st c ≤ carv D (wid D w) ((((hgt D c : Int) - a - hgt D (oth D s c)) + b).tdiv (len D s))) (some ((costv D c w s a b).toNat, (w * 256 + a * 16 + b) * uD D c)) none := by
    unfold own
    rw [hs]
    by_cases z : (len D s : Int) * lf D ≤ ((hgt D c : Int) - a - hgt D (oth D s c)) + b ∧ ((hgt D c : Int) - a - hgt D (oth D s c)) + b ≤ (len D s : Int) * mf D ∧ gq D st c ≤ carv D (wid D w) ((((hgt D c : Int) - a - hgt D (oth D s c)) + b).tdiv (len D s))
    · rw [cif_t z]
      exact cif_t ⟨hw, ha, ha2, hb, hb2, Or.inl rfl, Or.inl rfl, Or.inl rfl, z.1, z.2.1, z.2.2⟩ _ _
    · rw [cif_f z]
      exact cif_f (fun y => z ⟨y.2.2.2.2.2.2.2.2.1, y.2.2.2.2.2.2.2.2.2.1, y.2.2.2.2.2.2.2.2.2.2⟩) _ _
  unfold ownC
  rw [eo, hnx]
  by_cases qr : oth D s c = riv D
  · have hhi : (b : Int) ≤ hiD D c s a ↔ ((hgt D c : Int) - a - hgt D (oth D s c)) + b ≤ (len D s : Int) * mf D ∧ ¬ (hgt D (riv D) : Int) - b < lev D := by
      unfold hiD; rw [if_pos qr, ← qr]; omega
    by_cases q1 : (hgt D (riv D) : Int) - b < lev D
    · rw [cif_t ⟨by rw [qr], q1⟩, cif_f (fun y => (hhi.mp y.2.1).2 q1)]
    · rw [cif_f (fun y => q1 y.2)]
      congr 1
      exact propext ⟨fun y => ⟨hlo.mpr y.1, hhi.mpr ⟨y.2.1, q1⟩, y.2.2⟩, fun y => ⟨hlo.mp y.1, (hhi.mp y.2.1).1, y.2.2⟩⟩
  · have hhi : (b : Int) ≤ hiD D c s a ↔ ((hgt D c : Int) - a - hgt D (oth D s c)) + b ≤ (len D s : Int) * mf D := by
      unfold hiD; rw [if_neg qr]; omega
    rw [cif_f (fun y => qr (Option.some.inj y.1))]
    congr 1
    exact propext ⟨fun y => ⟨hlo.mpr y.1, hhi.mpr y.2.1, y.2.2⟩, fun y => ⟨hlo.mp y.1, hhi.mp y.2.1, y.2.2⟩⟩
theorem fall_in (ht : MT D) (hs : s < nS D) {z : Int} (h1 : (len D s : Int) * lf D ≤ z) (h2 : z ≤ (len D s : Int) * mf D) : ∃ f, lf D ≤ f ∧ f ≤ mf D ∧ z.tdiv (len D s) = (f : Int) := by
  have hl := ht.qlen1 hs
  have h0 : 0 ≤ (len D s : Int) * lf D := Int.mul_nonneg (by omega) (by omega)
  obtain ⟨n, rfl⟩ : ∃ n : Nat, z = (n : Int) := ⟨z.toNat, by omega⟩
  refine ⟨n / len D s, ?_, ?_, ?_⟩
  · rw [Nat.le_div_iff_mul_le (by omega), Nat.mul_comm]
    have : ((len D s * lf D : Nat) : Int) ≤ (n : Int) := by rw [Int.natCast_mul]; exact h1
    omega
  · refine Nat.div_le_of_le_mul ?_
    have : (n : Int) ≤ ((len D s * mf D : Nat) : Int) := by rw [Int.natCast_mul]; exact h2
    omega
  · exact (Int.ofNat_tdiv n (len D s)).symm
end
section
variable {σ : ah_H} {t : Nat} {D : DD} {st : Nat → Option Nat} {T : Tbl} {c w a s : Nat} {x : Nat × Nat}
theorem c_layEnds (h : TR σ t D) (hp0 : ah_R σ 163 17 = some t) (hr4 : D 227 4 ≠ mI 1) (hpr : PrT σ D) (hc : c < nC D) (hst : ah_I σ 164 c = nI s) (hs : st c = some s) (hss : s < nS D) (hw : w < nP D) (ha : lc D ≤ a) (ha2 : a ≤ mc D) (hfp : ah_R σ 201 8 = some t) (hFD : FD σ 201 D st cpM c) (hbe : behT (dpC D st) T c w a = some x) (hx1 : x.1 < 90000000000000000) (hx18 : ah_L σ 163 18 = iL (x.1 : Int)) (hx19 : ah_L σ 163 19 = iL (x.2 : Int)) (hu : ∀ b, b < 13 → x.2 + (w * 256 + a * 16 + b) * uD D c < 9223372036854775808) (hrow : RwE σ D c (layG (dpC D st) T c w a)) : ∃ τ, f_X0_layEnds 163 (nI c) (nI w) (nI a) σ = some τ ∧ Fr (Xex c) σ τ ∧ RwE τ D c (layG (dpC D st) T c w (a + 1)) := by
  have htn := h.tn
  have hW := h.w
  have b4 := h.t.qp4
  have b7 := h.t.qc7
  have b12 := h.t.qmc12
  have bmf := h.t.qmf99
  have blf := h.t.qlf99
  have bs := h.t.qs10
  have hl1 := h.t.qlen99 hss
  have ho := h.t.qoth (c := c) hss
  have hh1 := h.t.qhgt9 hc
  have hh2 := h.t.qhgt9 ho
  obtain ⟨r1, r2, r3, r4⟩ := h.t.rv hr4
  have hrv := tr_riv h
  rw [r1] at hrv
  have hlv := tr_lev h
  rw [r3] at hlv
  have hml : len D s * lf D ≤ 99 * 99 := Nat.mul_le_mul hl1 blf
  have hmm : len D s * mf D ≤ 99 * 99 := Nat.mul_le_mul hl1 bmf
  have c1 : ((len D s * lf D : Nat) : Int) = (len D s : Int) * (lf D : Int) := Int.natCast_mul _ _
  have c2 : ((len D s * mf D : Nat) : Int) = (len D s : Int) * (mf D : Int) := Int.natCast_mul _ _
  have m1 : 0 ≤ (len D s : Int) * (lf D : Int) ∧ (len D s : Int) * (lf D : Int) ≤ 9801 := by omega
  have m2 : 0 ≤ (len D s : Int) * (mf D : Int) ∧ (len D s : Int) * (mf D : Int) ≤ 9801 := by omega
  have hlo1 : lc D ≤ loD D c s a ∧ loD D c s a ≤ 100000 := by unfold loD; omega
  have hhi1 : hiD D c s a ≤ mc D ∧ -20000 ≤ hiD D c s a := by unfold hiD; split <;> omega
  have hgq : iL ((gwt D st cpM c : Nat) : Int) = iL (gq D st c) := by
    rw [gwt_gm h.t hc (by rw [hs]; intro z; cases z)]; rfl
  have hgb := gmx_b (st := st) (cp := plain) h.t hc
  have hsh := c_shiftOf h hp0 hr4 hc
  have hsn : 10 * (5 - (if riv D < c then c - 1 else c)) < 51 := by split <;> omega
  -- from the bounds on
  have main : f_X0_layEnds_159 163 (nI c) (nI w) (nI a) (nI s) (nI (len D s)) (jI ((hgt D c : Int) - a - hgt D (oth D s c))) (nI (loD D c s a)) (jI (hiD D c s a)) σ = f_X0_layEnds_182 5000 163 (nI c) (nI w) (nI a) (nI s) (nI (len D s)) (jI ((hgt D c : Int) - a - hgt D (oth D s c))) (jI (hiD D c s a)) (iL (gq D st c)) (iL ((uD D c : Nat) : Int)) (nI (loD D c s a)) σ := by
    unfold f_X0_layEnds_159
    simp only [to_bq, l_0, l_1, l_2, l_3, l_4, l_5, l_6, l_7, l_8, l_9, l_10, l_11, l_12, l_13, l_14, l_15, l_16, l_17, l_18, l_19, l_20, l_21, l_22, l_23, l_24, l_25, l_26, l_27, l_28, l_29, l_30, l_31, l_32, l_40, l_41, l_42, l_43, l_44, l_45, l_46, l_47, l_48, l_49, l_50, l_51, l_52, l_53, l_54, l_55, l_56, l_57, l_58, l_59, l_60, l_61, l_62, l_63, l_64, l_72, l_97, l_99, l_100, l_104, l_120, l_122, l_128, l_140, l_255, l_256, l_257, l_258, l_260, l_261, l_262, l_364, l_680, l_700, l_701, l_840, l_999, l_1023, l_1024, l_9999, l_10000, l_1000000, lm]
    rw [gR_163_2 hW, bq_n, c_greatest h Fl_201 hfp hc hFD, bq_n, hgq]
    show bq _ _ (f_X0_shiftOf 163 (nI c) σ) = _
    rw [hsh, bq_n, sh_64 hsn]
    rfl
  obtain ⟨τ, e1, e2, e3⟩ := c_le182 (p := dpC D st) (T := T) (lo := loD D c s a) (drop := (hgt D c : Int) - a - hgt D (oth D s c)) (hi := hiD D c s a) (q := gq D st c) (u := uD D c) h hp0 hpr hc hw ha ha2 hss ⟨by unfold gq; omega, by unfold gq; omega⟩ hbe hx1 hx18 hx19 hu hlo1.1 hhi1.1 hhi1.2 ⟨by omega, by omega⟩ (fun b hb1 hb2 => by
      have g1 : (len D s : Int) * lf D ≤ ((hgt D c : Int) - a - hgt D (oth D s c)) + b := by unfold loD at hb1; omega
      have g2 : ((hgt D c : Int) - a - hgt D (oth D s c)) + b ≤ (len D s : Int) * mf D := by
        unfold hiD at hb2
        by_cases z : oth D s c = riv D
        · rw [if_pos z] at hb2; omega
        · rw [if_neg z] at hb2; omega
      have hbm : b ≤ 12 := by omega
      exact ⟨by omega, by omega, fall_in h.t hss g1 g2⟩) (fun b hb1 hb2 => by rw [(dpC_q D st).2]; exact ownC_eq hs hw ha ha2 hb1 hb2) (mc D + 1) (loD D c s a) 5000 σ (by omega) hlo1.2 (by omega) (Nat.le_refl _) Fr.rfl (hrow.cg (fun v b hv h1 h2 => by
      by_cases z : v = w ∧ b < loD D c s a
      · rw [if_pos z, z.1]
        unfold layG
        rw [if_neg (by omega), if_pos rfl, if_neg (by omega), if_pos rfl]
        show vmin (vmn (layE (dpC D st) T c w b) a) (layE (dpC D st) T c w b a) = _
        rw [show layE (dpC D st) T c w b a = none by
          unfold layE
          rw [(dpC_q D st).2, ownC_eq hs hw ha ha2 h1 h2, cif_f (fun y => by have := y.1; omega), vadd_n], vmin_n]
      · rw [if_neg z]))
  refine ⟨τ, ?_, e2, e3⟩
  have n1 : (nI (hgt D c) - nI a) - nI (hgt D (oth D s c)) = jI ((hgt D c : Int) - a - hgt D (oth D s c)) := by
    rw [jI_n, jI_n, jI_n, jsub, jsub]
  have n2 : op_maxi (nI (lc D)) (nI (len D s * lf D) - jI ((hgt D c : Int) - a - hgt D (oth D s c))) = nI (loD D c s a) := by
    rw [jI_n, jI_n, jsub, maxi_j ⟨by omega, by omega⟩ ⟨by omega, by omega⟩, jI_n]
    congr 1
    unfold loD
    omega
  have n3 : op_mini (nI (mc D)) (nI (len D s * mf D) - jI ((hgt D c : Int) - a - hgt D (oth D s c))) = jI (min (mc D : Int) ((len D s : Int) * mf D - ((hgt D c : Int) - a - hgt D (oth D s c)))) := by
    rw [jI_n, jI_n, jsub, mini_j ⟨by omega, by omega⟩ ⟨by omega, by omega⟩, c2]
  unfold f_X0_layEnds f_X0_layEnds_0
  simp only [to_bq, l_0, l_1, l_2, l_3, l_4, l_5, l_6, l_7, l_8, l_9, l_10, l_11, l_12, l_13, l_14, l_15, l_16, l_17, l_18, l_19, l_20, l_21, l_22, l_23, l_24, l_25, l_26, l_27, l_28, l_29, l_30, l_31, l_32, l_40, l_41, l_42, l_43, l_44, l_45, l_46, l_47, l_48, l_49, l_50, l_51, l_52, l_53, l_54, l_55, l_56, l_57, l_58, l_59, l_60, l_61, l_62, l_63, l_64, l_72, l_97, l_99, l_100, l_104, l_120, l_122, l_128, l_140, l_255, l_256, l_257, l_258, l_260, l_261, l_262, l_364, l_680, l_700, l_701, l_840, l_999, l_1023, l_1024, l_9999, l_10000, l_1000000, lm]
  have zm1 : nI (len D s) * nI (lf D) = nI (len D s * lf D) := zmul _ _
  have zm2 : nI (len D s) * nI (mf D) = nI (len D s * mf D) := zmul _ _
  simp (disch := first | (with_reducible assumption) | omega | exact ⟨by omega, by omega⟩ | ((with_reducible first | apply Wf.wI | apply Wf.wL | apply Wf.fL | apply Wf.fI | apply Wf.fr); (repeat (with_reducible first | assumption | apply Wf.wI | apply Wf.wL | apply Wf.fL | apply Wf.fI | apply Wf.fr)))) only [ck_163, gI_163, gL_163, pI_163, pZ0_163, pZ1_163, pL_163, gR_163_1, gR_163_2, gR_163_3, gR_163_5, gR_163_6, gR_163_7, gR_163_9, gR_163_10, gR_163_11, gR_163_12, gR_163_13, gR_163_14, gR_163_15, pR_163_17, gR_163_17, aI_164, sI_164, len_164, ck_t, gI_t, gL_t, pI_t, pZ0_t, pZ1_t, pL_t, ck_w, gI_w, gL_w, pI_w, pZ0_w, pZ1_w, pL_w, gR_t_1, gR_t_5, gR_t_7, gR_t_9, gR_t_10, gR_t_11, gR_t_12, gR_t_15, gR_w_2, gR_w_3, gR_w_4, gR_w_5, gR_w_6, gR_w_7, aR_crow, aR_srow, aR_prow, aR_rrow, aI_crow, sI_crow, len_crow, aI_srow, sI_srow, len_srow, aI_prow, sI_prow, len_prow, aI_rrow, sI_rrow, len_rrow, aI_t25, sI_t25, len_t25, aI_t31, sI_t31, len_t31, aI_t32, sI_t32, len_t32, aI_t34, sI_t34, len_t34, aI_t35, sI_t35, len_t35, aI_t36, sI_t36, len_t36, aI_t37, sI_t37, len_t37, aL_t38, sL_t38, len_t38, aL_t39, sL_t39, len_t39, bq_n, bd_s, mp_s, rz_0, rz_1, bI_rz, hp0, hst, c_otherEnd h hss (show c < 7 by omega), tr_len h hss, tr_hgt h hc, tr_hgt h ho, tr_lc h, tr_mc h, tr_lf h, tr_mf h, hrv, hlv, zm1, zm2, n1, n2, n3]
  by_cases qr : oth D s c = riv D
  · rw [if_pos (by rw [qr])]
    have n4 : op_mini (jI (min (mc D : Int) ((len D s : Int) * mf D - ((hgt D c : Int) - a - hgt D (oth D s c))))) (nI (hgt D (oth D s c)) - nI (lev D)) = jI (hiD D c s a) := by
      rw [jI_n, jI_n, jsub, mini_j ⟨by omega, by omega⟩ ⟨by omega, by omega⟩]
      unfold hiD
      rw [if_pos qr]
    rw [n4, main]
    exact e1
  · rw [if_neg (by rw [eq_nI (by omega) (by omega)]; exact qr)]
    have n4 : jI (min (mc D : Int) ((len D s : Int) * mf D - ((hgt D c : Int) - a - hgt D (oth D s c)))) = jI (hiD D c s a) := by
      unfold hiD
      rw [if_neg qr]
    rw [n4, main]
    exact e1
end
