/-! The reference's stages, asked -/
section
variable {σ : ah_H} {D : DD}
theorem sm_c1 (n : Nat) : sm (fun _ => 1) n = n := by
  induction n with
  | zero => rfl
  | succ n ih => show sm (fun _ => 1) n + 1 = n + 1; rw [ih]
theorem mis_riv (ht : MT D) (hj : jnd D) : mis D (2 ^ riv D) + 1 = nC D := by
  have h1 := mis_set (D := D) (Q := 0) (ht.rv hj.1).2.1 (by rw [Nat.zero_testBit]; intro z; cases z)
  rw [Nat.zero_or] at h1
  rw [← h1]
  have : mis D 0 = sm (fun _ => 1) (nC D) := sm_eq (fun c _ => by show (if _ then _ else _) = _; rw [Nat.zero_testBit]; rfl)
  rw [this, sm_c1]
theorem bB_0 (Q : Nat) (hQ : Q = 2 ^ riv D) : bBQ D 0 Q := by
  refine ⟨Nat.pow_pos (by omega), fun c => ?_⟩
  rw [Nat.zero_testBit, hQ, Nat.testBit_two_pow]
  constructor
  · intro z; cases z
  · rintro ⟨z1, z2⟩
    have : riv D = c := by simpa using z1
    exact absurd this.symm z2
theorem grd_b (ht : MT D) : ∀ i Q, grd D Q i ≤ 6 := by
  have b := ht.qc7
  have h0 : ∀ Q, (gst D Q).getD 0 ≤ 6 := by
    intro Q
    cases hg : gst D Q with
    | none => exact Nat.zero_le _
    | some a => have := (gst_in hg).1; show a ≤ 6; omega
  intro i
  induction i with
  | zero => intro Q; exact h0 Q
  | succ i ih => intro Q; exact ih _
noncomputable def sStages (D : DD) (w : Int32) : Int64 := cif (jnd D) (if w < nI 0 then iL (-1) else if w ≤ nI (nC D - 1) then (if w = nI 0 then iL ((Rst D (2 ^ riv D) : Nat) : Int) else iL ((grd D (2 ^ riv D) (ix w - 1) : Nat) : Int)) else iL (-1)) (iL (-1))
theorem m_stages (h : MInv σ D) (w : Int32) : Ok (f_X12_stages 225 w σ) (fun q => q.1 = sStages D w ∧ Fr Xq σ q.2) := by
  have hw := h.w
  have b1 := h.bd
  have f2 : Fr Xq σ (ah_wI (ah_wI σ 225 0 (nI 0)) 225 42 (nI 0)) := (Fr.q0 (by omega)).trans (Fr.q0 (by omega))
  have h2 := h.q f2
  have hw2 := h2.w
  unfold f_X12_stages f_X12_stages_0 sStages
  simp only [to_bq, l_0, l_1, l_2, l_3, l_4, l_5, l_6, l_7, l_8, l_9, l_10, l_11, l_12, l_13, l_14, l_15, l_16, l_17, l_18, l_19, l_20, l_21, l_22, l_23, l_24, l_25, l_26, l_27, l_28, l_29, l_30, l_31, l_32, l_40, l_41, l_42, l_43, l_44, l_45, l_46, l_47, l_48, l_49, l_50, l_51, l_52, l_53, l_54, l_55, l_56, l_57, l_58, l_59, l_60, l_61, l_62, l_63, l_64, l_72, l_97, l_99, l_100, l_104, l_120, l_122, l_128, l_140, l_255, l_256, l_257, l_258, l_260, l_261, l_262, l_364, l_680, l_700, l_701, l_840, l_999, l_1023, l_1024, l_9999, l_10000, l_1000000, lm]
  simp (disch := first | (with_reducible assumption) | omega | exact ⟨by omega, by omega⟩ | ((with_reducible first | apply Wf.wI | apply Wf.wL | apply Wf.fL | apply Wf.fI | apply Wf.fr); (repeat (with_reducible first | assumption | apply Wf.wI | apply Wf.wL | apply Wf.fL | apply Wf.fI | apply Wf.fr)))) only [ck_225, gI_225, gL_225, pI_225, pZ0_225, pZ1_225, pL_225, gR_225_1, gR_225_3, gR_225_4, gR_225_5, gR_225_6, gR_225_7, gR_225_8, gR_225_9, gR_225_10, gR_225_11, gR_225_12, gR_225_13, gR_225_14, gR_225_15, gR_225_16, gR_225_17, gR_225_18, gR_225_19, gR_225_20, gR_225_21, gR_225_35, gR_225_36, gR_225_38, gR_225_39, gR_225_40, gR_225_41, gR_225_43, gR_225_44, gR_225_45, gR_225_48, gR_225_49, gR_225_50, gR_225_51, gR_225_53, gR_225_54, gR_225_55, gR_225_56, gR_225_58, gR_225_59, gR_225_60, gR_225_61, gR_225_62, gR_225_63, gR_225_66, gR_225_67, bq_s, bd_s, mp_s, rz_0, rz_1, bI_rz, m_isJoined h2 rI_eq, q_m1]
  by_cases qj : jnd D
  · rw [cif_t qj, cI_t qj, if_neg (show ¬ nI 1 = nI 0 by decide)]
    obtain ⟨e1, e2, -⟩ := h.t.rv qj.1
    by_cases q1 : w < nI 0
    · rw [if_pos q1, if_pos q1]; exact ⟨_, rfl, rfl, f2⟩
    rw [if_neg q1, if_neg q1]
    simp (disch := first | (with_reducible assumption) | omega | exact ⟨by omega, by omega⟩ | ((with_reducible first | apply Wf.wI | apply Wf.wL | apply Wf.fL | apply Wf.fI | apply Wf.fr); (repeat (with_reducible first | assumption | apply Wf.wI | apply Wf.wL | apply Wf.fL | apply Wf.fI | apply Wf.fr)))) only [ck_225, gI_225, gL_225, pI_225, pZ0_225, pZ1_225, pL_225, gR_225_1, gR_225_3, gR_225_4, gR_225_5, gR_225_6, gR_225_7, gR_225_8, gR_225_9, gR_225_10, gR_225_11, gR_225_12, gR_225_13, gR_225_14, gR_225_15, gR_225_16, gR_225_17, gR_225_18, gR_225_19, gR_225_20, gR_225_21, gR_225_35, gR_225_36, gR_225_38, gR_225_39, gR_225_40, gR_225_41, gR_225_43, gR_225_44, gR_225_45, gR_225_48, gR_225_49, gR_225_50, gR_225_51, gR_225_53, gR_225_54, gR_225_55, gR_225_56, gR_225_58, gR_225_59, gR_225_60, gR_225_61, gR_225_62, gR_225_63, gR_225_66, gR_225_67, bq_s, bd_s, mp_s, rz_0, rz_1, bI_rz, zadd, zmul, zsub, le_nI, lt_nI, eq_nI, neg_nI, gen_nI, neg_lt, neg_le, neg_lt', neg_le', nI_lt0, aI_227, rd_C h2]
    by_cases q2 : w ≤ nI (nC D - 1)
    · rw [if_pos q2, if_pos q2]
      obtain ⟨j, hj, rfl⟩ := le_rng (by omega) q1 q2
      have f3 : Fr Xy (ah_wI (ah_wI σ 225 0 (nI 0)) 225 42 (nI 0)) (ah_wL (ah_wI (ah_wI σ 225 0 (nI 0)) 225 42 (nI 0)) 225 68 (iL (-1))) := Fr.rfl.wL (by unfold Xy; omega)
      have hmr := mis_riv h.t qj
      obtain ⟨ρ, g1, g2, g3, g4⟩ := m_orders h2 rI_eq qj (nC D - 1) 0 (2 ^ riv D) 0 0 20 _ (fun _ => 0) none (by omega) (by omega) (Good_0 h.t qj) (by omega) (bB_0 _ rfl) f3 (fun j hj => by omega) rL_eq (by omega)
      have g4 : ah_L ρ 225 68 = iL ((0 + Rst D (2 ^ riv D) : Nat) : Int) ∧ _ ∧ ∀ i, i < nC D - 1 → ah_I ρ 270 i = nI (grd D (2 ^ riv D) (i - 0)) := g4
      obtain ⟨g5, -, g6⟩ := g4
      rw [Nat.zero_add] at g5
      have hw3 : Wf ρ := hw2.fr g2
      have hwl : Wf (ah_wL (ah_wI (ah_wI σ 225 0 (nI 0)) 225 42 (nI 0)) 225 68 (iL (-1))) := hw2.wL _ _ _
      have fin : Fr Xq σ ρ := f2.trans (g2.mono Xy_q)
      have gor : f_X12_orders 225 (nI 0) (nI 0) 0 (ah_wL (ah_wI (ah_wI σ 225 0 (nI 0)) 225 42 (nI 0)) 225 68 (iL (-1))) = some ρ := by
        unfold f_X12_orders
        rw [ck_225 hwl, q_0]
        exact g1
      rw [gor, bq_s, ix_nI (by omega)]
      simp (disch := first | (with_reducible assumption) | omega | exact ⟨by omega, by omega⟩ | ((with_reducible first | apply Wf.wI | apply Wf.wL | apply Wf.fL | apply Wf.fI | apply Wf.fr); (repeat (with_reducible first | assumption | apply Wf.wI | apply Wf.wL | apply Wf.fL | apply Wf.fI | apply Wf.fr)))) only [zadd, zmul, zsub, le_nI, lt_nI, eq_nI, neg_nI, gen_nI, neg_lt, neg_le, neg_lt', neg_le', nI_lt0]
      by_cases q3 : j = 0
      · rw [if_pos q3, if_pos q3, gL_225 hw3, bq_s, g5]; exact ⟨_, rfl, rfl, fin⟩
      · have hgb := grd_b h.t (j - 1) (2 ^ riv D)
        rw [if_neg q3, if_neg q3, gR_225_67 hw3, bq_s, zsub (by omega), aI_270 hw3 (by omega), bq_s, g6 (j - 1) (by omega), toL_n (by show grd D (2 ^ riv D) (j - 1 - 0) < _; rw [Nat.sub_zero]; omega)]
        exact ⟨_, rfl, rfl, fin⟩
    · rw [if_neg q2, if_neg q2]; exact ⟨_, rfl, rfl, f2⟩
  · rw [cif_f qj, cI_f qj, if_pos rfl]; exact ⟨_, rfl, rfl, f2⟩
/-- a told order: its k-th corner -/
def dgv (o : Int32) (k : Nat) : Int32 := (o >>> ((nI 4 * nI k) &&& nI 31)) &&& nI 15
def dgn (o : Int32) (k : Nat) : Nat := ix (dgv o k)
theorem dg_e (o : Int32) (k : Nat) : dgv o k = nI (dgn o k) ∧ dgn o k < 16 := by
  obtain ⟨j, hj, e⟩ := pk_andE (o >>> ((nI 4 * nI k) &&& nI 31)) (m := nI 15) 4 (by decide)
  have e : dgv o k = nI j := e
  unfold dgn
  rw [e, ix_nI (by omega)]
  exact ⟨rfl, by omega⟩
noncomputable def stw (D : DD) (o : Int32) : Nat → Nat → Nat → Int → Int
  | 0, _, Q, s => if Q = 2 ^ nC D - 1 then s else -2
  | m + 1, k, Q, s => cif (dgn o k < nC D ∧ blb D Q (dgn o k)) (stw D o m (k + 1) (Q ||| 2 ^ dgn o k) (s + crt D Q)) (-2)
theorem stw_ne (o : Int32) : ∀ m k Q s, Q < 2 ^ nC D → mis D Q ≠ m → stw D o m k Q s = -2 := by
  intro m
  induction m with
  | zero =>
    intro k Q s hQ hm
    show (if _ then _ else _) = _
    rw [if_neg (fun e => hm ((mis_0 hQ).mpr e))]
  | succ m ih =>
    intro k Q s hQ hm
    show cif _ _ _ = _
    by_cases q : dgn o k < nC D ∧ blb D Q (dgn o k)
    · rw [cif_t q]
      have := mis_set (D := D) q.1 q.2.1
      exact ih _ _ _ (or_b hQ (pw_b q.1)) (by omega)
    · rw [cif_f q]
noncomputable def sStage (D : DD) (n o : Int32) : Int64 := cif (jnd D) (if n < nI 0 then iL (-1) else if n ≤ nI 6 then iL (stw D o (ix n) 0 (2 ^ riv D) 0) else iL (-1)) (iL (-1))
theorem m_st55 (h : MInv σ D) (hn : ah_I σ 225 42 = nI 0) (hj : jnd D) (o : Int32) {n : Nat} (hnn : n ≤ 6) : ∀ m k fu Q B s, k + m = n → m < fu → Good D Q → mis D Q = m → bBQ D B Q → f_X12_stage_55 fu 225 (nI n) o (nI B) (iL s) (nI k) σ = some (iL (stw D o m k Q s), σ) := by
  have hw := h.w
  have b1 := h.bd
  have hst := h.st0 hn
  obtain ⟨e1, e2, -⟩ := h.t.rv hj.1
  have p7 : 2 ^ nC D ≤ 128 := Nat.pow_le_pow_right (n := 2) (by omega) b1.1
  have hrv := rd_riv h
  rw [e1] at hrv
  intro m
  induction m with
  | zero =>
    intro k fu Q B s hk hf hG hm hB
    obtain ⟨fu, rfl⟩ : ∃ q, fu = q + 1 := ⟨fu - 1, by omega⟩
    obtain rfl : k = n := by omega
    show f_X12_stage_55_b _ _ _ _ _ _ _ _ = some (iL (if _ then _ else _), σ)
    unfold f_X12_stage_55_b
    rw [if_pos (Int32.le_refl _), if_pos ((mis_0 hG.1).mp hm)]
  | succ m ih =>
    intro k fu Q B s hk hf hG hm hB
    obtain ⟨fu, rfl⟩ : ∃ q, fu = q + 1 := ⟨fu - 1, by omega⟩
    obtain ⟨d1, d2⟩ := dg_e o k
    have hBl := hB.1
    have hde : (o >>> ((nI 4 * nI k) &&& nI 31)) &&& nI 15 = nI (dgn o k) := d1
    show f_X12_stage_55_b _ _ _ _ _ _ _ _ = some (iL (cif _ _ _), σ)
    unfold f_X12_stage_55_b
    simp only [to_bq, l_0, l_1, l_2, l_3, l_4, l_5, l_6, l_7, l_8, l_9, l_10, l_11, l_12, l_13, l_14, l_15, l_16, l_17, l_18, l_19, l_20, l_21, l_22, l_23, l_24, l_25, l_26, l_27, l_28, l_29, l_30, l_31, l_32, l_40, l_41, l_42, l_43, l_44, l_45, l_46, l_47, l_48, l_49, l_50, l_51, l_52, l_53, l_54, l_55, l_56, l_57, l_58, l_59, l_60, l_61, l_62, l_63, l_64, l_72, l_97, l_99, l_100, l_104, l_120, l_122, l_128, l_140, l_255, l_256, l_257, l_258, l_260, l_261, l_262, l_364, l_680, l_700, l_701, l_840, l_999, l_1023, l_1024, l_9999, l_10000, l_1000000, lm]
    rw [hde]
    simp (disch := first | (with_reducible assumption) | omega | exact ⟨by omega, by omega⟩ | ((with_reducible first | apply Wf.wI | apply Wf.wL | apply Wf.fL | apply Wf.fI | apply Wf.fr); (repeat (with_reducible first | assumption | apply Wf.wI | apply Wf.wL | apply Wf.fL | apply Wf.fI | apply Wf.fr)))) only [bq_s, bd_s, mp_s, rz_0, rz_1, bI_rz, zadd, zmul, zsub, le_nI, lt_nI, eq_nI, neg_nI, gen_nI, neg_lt, neg_le, neg_lt', neg_le', nI_lt0, if_true, if_false, ite_true, ite_false, reduceIte, not_true, not_false, and_true, true_and, and_false, false_and, or_true, true_or, or_false, false_or, eq_self, m_isCorner h, bI_0, ite_n, q_m2, show (n ≤ k) = False from eq_false (by omega)]
    by_cases q0 : dgn o k < nC D
    · rw [if_pos ⟨by omega, by omega⟩]
      simp (disch := first | (with_reducible assumption) | omega | exact ⟨by omega, by omega⟩ | ((with_reducible first | apply Wf.wI | apply Wf.wL | apply Wf.fL | apply Wf.fI | apply Wf.fr); (repeat (with_reducible first | assumption | apply Wf.wI | apply Wf.wL | apply Wf.fL | apply Wf.fI | apply Wf.fr)))) only [ck_225, gI_225, gL_225, pI_225, pZ0_225, pZ1_225, pL_225, gR_225_1, gR_225_3, gR_225_4, gR_225_5, gR_225_6, gR_225_7, gR_225_8, gR_225_9, gR_225_10, gR_225_11, gR_225_12, gR_225_13, gR_225_14, gR_225_15, gR_225_16, gR_225_17, gR_225_18, gR_225_19, gR_225_20, gR_225_21, gR_225_35, gR_225_36, gR_225_38, gR_225_39, gR_225_40, gR_225_41, gR_225_43, gR_225_44, gR_225_45, gR_225_48, gR_225_49, gR_225_50, gR_225_51, gR_225_53, gR_225_54, gR_225_55, gR_225_56, gR_225_58, gR_225_59, gR_225_60, gR_225_61, gR_225_62, gR_225_63, gR_225_66, gR_225_67, bq_s, bd_s, mp_s, rz_0, rz_1, bI_rz, zadd, zmul, zsub, le_nI, lt_nI, eq_nI, neg_nI, gen_nI, neg_lt, neg_le, neg_lt', neg_le', nI_lt0, aI_227, hrv]
      by_cases q1 : dgn o k = riv D
      · rw [if_pos q1, cif_f (fun z => z.2.1 (by rw [q1]; exact hG.2.1))]
      rw [if_neg q1]
      simp only [z_bit1 (show B < 2147483648 by omega) (show dgn o k < 31 by omega)]
      by_cases q2 : B.testBit (dgn o k) = true
      · rw [if_pos q2, cif_f (fun z => z.2.1 ((hB.2 _).mp q2).1)]
      rw [if_neg q2]
      have q2' : ¬ Q.testBit (dgn o k) = true := fun z => q2 ((hB.2 _).mpr ⟨z, q1⟩)
      cases hxs : stD D (dgn o k) with
      | none => exact absurd hxs (jnd_laid hj q0 q1)
      | some st =>
        have hs' := (hst.2.2 _ q0).2 st hxs
        have ho := h.t.qoth (c := dgn o k) hs'
        have hnx : nx D (stD D) (dgn o k) = some (oth D st (dgn o k)) := by unfold nx; rw [hxs]; rfl
        have go : blb D Q (dgn o k) → f_X12_stage_134 (f_X12_stage_55 fu) 225 (nI n) o (nI B) (iL s) (nI k) (nI (dgn o k)) σ = some (iL (cif (dgn o k < nC D ∧ blb D Q (dgn o k)) (stw D o m (k + 1) (Q ||| 2 ^ dgn o k) (s + crt D Q)) (-2)), σ) := by
          intro hb
          have hms := mis_set (D := D) q0 q2'
          unfold f_X12_stage_134
          simp only [to_bq, l_0, l_1, l_2, l_3, l_4, l_5, l_6, l_7, l_8, l_9, l_10, l_11, l_12, l_13, l_14, l_15, l_16, l_17, l_18, l_19, l_20, l_21, l_22, l_23, l_24, l_25, l_26, l_27, l_28, l_29, l_30, l_31, l_32, l_40, l_41, l_42, l_43, l_44, l_45, l_46, l_47, l_48, l_49, l_50, l_51, l_52, l_53, l_54, l_55, l_56, l_57, l_58, l_59, l_60, l_61, l_62, l_63, l_64, l_72, l_97, l_99, l_100, l_104, l_120, l_122, l_128, l_140, l_255, l_256, l_257, l_258, l_260, l_261, l_262, l_364, l_680, l_700, l_701, l_840, l_999, l_1023, l_1024, l_9999, l_10000, l_1000000, lm]
          rw [m_stageCost h hn hj hB hG, bq_s, z_set (by omega), iadd, zadd, cif_t ⟨q0, hb⟩]
          exact ih (k + 1) fu _ _ _ (by omega) (by omega) (Good_add hG q0 hb) (by omega) (bB_add hB q0 q1)
        rw [m_to h hst q0 hxs, bq_s]
        simp (disch := first | (with_reducible assumption) | omega | exact ⟨by omega, by omega⟩ | ((with_reducible first | apply Wf.wI | apply Wf.wL | apply Wf.fL | apply Wf.fI | apply Wf.fr); (repeat (with_reducible first | assumption | apply Wf.wI | apply Wf.wL | apply Wf.fL | apply Wf.fI | apply Wf.fr)))) only [ck_225, gI_225, gL_225, pI_225, pZ0_225, pZ1_225, pL_225, gR_225_1, gR_225_3, gR_225_4, gR_225_5, gR_225_6, gR_225_7, gR_225_8, gR_225_9, gR_225_10, gR_225_11, gR_225_12, gR_225_13, gR_225_14, gR_225_15, gR_225_16, gR_225_17, gR_225_18, gR_225_19, gR_225_20, gR_225_21, gR_225_35, gR_225_36, gR_225_38, gR_225_39, gR_225_40, gR_225_41, gR_225_43, gR_225_44, gR_225_45, gR_225_48, gR_225_49, gR_225_50, gR_225_51, gR_225_53, gR_225_54, gR_225_55, gR_225_56, gR_225_58, gR_225_59, gR_225_60, gR_225_61, gR_225_62, gR_225_63, gR_225_66, gR_225_67, bq_s, bd_s, mp_s, rz_0, rz_1, bI_rz, zadd, zmul, zsub, le_nI, lt_nI, eq_nI, neg_nI, gen_nI, neg_lt, neg_le, neg_lt', neg_le', nI_lt0, aI_227, hrv]
        by_cases q3 : oth D st (dgn o k) = riv D
        · rw [if_pos q3]
          exact go ⟨q2', _, hnx, by rw [q3]; exact hG.2.1⟩
        rw [if_neg q3, m_to h hst q0 hxs, bq_s]
        simp only [z_bit (show B < 2147483648 by omega) (show oth D st (dgn o k) < 31 by omega), ite_n]
        by_cases q4 : B.testBit (oth D st (dgn o k)) = true
        · rw [if_pos q4]
          exact go ⟨q2', _, hnx, ((hB.2 _).mp q4).1⟩
        · rw [if_neg q4, cif_f]
          rintro ⟨-, z⟩
          obtain ⟨y, hy, hqy⟩ := z.2
          rw [hnx] at hy
          cases hy
          exact q4 ((hB.2 _).mpr ⟨hqy, q3⟩)
    · rw [if_neg (fun z => by have := z.2; omega), cif_f (fun z => q0 z.1)]
theorem m_stage (h : MInv σ D) (n o : Int32) : Ok (f_X12_stage 225 n o σ) (fun q => q.1 = sStage D n o ∧ Fr Xq σ q.2) := by
  have hw := h.w
  have b1 := h.bd
  have f2 : Fr Xq σ (ah_wI (ah_wI σ 225 0 (nI 0)) 225 42 (nI 0)) := (Fr.q0 (by omega)).trans (Fr.q0 (by omega))
  have h2 := h.q f2
  have hw2 := h2.w
  unfold f_X12_stage f_X12_stage_0 sStage
  simp only [to_bq, l_0, l_1, l_2, l_3, l_4, l_5, l_6, l_7, l_8, l_9, l_10, l_11, l_12, l_13, l_14, l_15, l_16, l_17, l_18, l_19, l_20, l_21, l_22, l_23, l_24, l_25, l_26, l_27, l_28, l_29, l_30, l_31, l_32, l_40, l_41, l_42, l_43, l_44, l_45, l_46, l_47, l_48, l_49, l_50, l_51, l_52, l_53, l_54, l_55, l_56, l_57, l_58, l_59, l_60, l_61, l_62, l_63, l_64, l_72, l_97, l_99, l_100, l_104, l_120, l_122, l_128, l_140, l_255, l_256, l_257, l_258, l_260, l_261, l_262, l_364, l_680, l_700, l_701, l_840, l_999, l_1023, l_1024, l_9999, l_10000, l_1000000, lm]
  simp (disch := first | (with_reducible assumption) | omega | exact ⟨by omega, by omega⟩ | ((with_reducible first | apply Wf.wI | apply Wf.wL | apply Wf.fL | apply Wf.fI | apply Wf.fr); (repeat (with_reducible first | assumption | apply Wf.wI | apply Wf.wL | apply Wf.fL | apply Wf.fI | apply Wf.fr)))) only [ck_225, gI_225, gL_225, pI_225, pZ0_225, pZ1_225, pL_225, gR_225_1, gR_225_3, gR_225_4, gR_225_5, gR_225_6, gR_225_7, gR_225_8, gR_225_9, gR_225_10, gR_225_11, gR_225_12, gR_225_13, gR_225_14, gR_225_15, gR_225_16, gR_225_17, gR_225_18, gR_225_19, gR_225_20, gR_225_21, gR_225_35, gR_225_36, gR_225_38, gR_225_39, gR_225_40, gR_225_41, gR_225_43, gR_225_44, gR_225_45, gR_225_48, gR_225_49, gR_225_50, gR_225_51, gR_225_53, gR_225_54, gR_225_55, gR_225_56, gR_225_58, gR_225_59, gR_225_60, gR_225_61, gR_225_62, gR_225_63, gR_225_66, gR_225_67, bq_s, bd_s, mp_s, rz_0, rz_1, bI_rz, m_isJoined h2 rI_eq, q_m1, q_m2]
  by_cases qj : jnd D
  · rw [cif_t qj, cI_t qj, if_neg (show ¬ nI 1 = nI 0 by decide)]
    obtain ⟨e1, e2, -⟩ := h.t.rv qj.1
    by_cases q1 : n < nI 0
    · rw [if_pos q1, if_pos q1]; exact ⟨_, rfl, rfl, f2⟩
    rw [if_neg q1, if_neg q1]
    by_cases q2 : n ≤ nI 6
    · rw [if_pos q2, if_pos q2]
      obtain ⟨j, hj, rfl⟩ := le_rng (by omega) q1 q2
      have hmr := mis_riv h.t qj
      rw [ix_nI (by omega)]
      simp (disch := first | (with_reducible assumption) | omega | exact ⟨by omega, by omega⟩ | ((with_reducible first | apply Wf.wI | apply Wf.wL | apply Wf.fL | apply Wf.fI | apply Wf.fr); (repeat (with_reducible first | assumption | apply Wf.wI | apply Wf.wL | apply Wf.fL | apply Wf.fI | apply Wf.fr)))) only [ck_225, gI_225, gL_225, pI_225, pZ0_225, pZ1_225, pL_225, gR_225_1, gR_225_3, gR_225_4, gR_225_5, gR_225_6, gR_225_7, gR_225_8, gR_225_9, gR_225_10, gR_225_11, gR_225_12, gR_225_13, gR_225_14, gR_225_15, gR_225_16, gR_225_17, gR_225_18, gR_225_19, gR_225_20, gR_225_21, gR_225_35, gR_225_36, gR_225_38, gR_225_39, gR_225_40, gR_225_41, gR_225_43, gR_225_44, gR_225_45, gR_225_48, gR_225_49, gR_225_50, gR_225_51, gR_225_53, gR_225_54, gR_225_55, gR_225_56, gR_225_58, gR_225_59, gR_225_60, gR_225_61, gR_225_62, gR_225_63, gR_225_66, gR_225_67, bq_s, bd_s, mp_s, rz_0, rz_1, bI_rz, zadd, zmul, zsub, le_nI, lt_nI, eq_nI, neg_nI, gen_nI, neg_lt, neg_le, neg_lt', neg_le', nI_lt0, aI_227, rd_C h2]
      by_cases q3 : j = nC D - 1
      · rw [if_pos q3, q_0]
        exact ⟨_, m_st55 h2 rI_eq qj o (by omega) j 0 5000 (2 ^ riv D) 0 0 (by omega) (by omega) (Good_0 h.t qj) (by omega) (bB_0 _ rfl), rfl, f2⟩
      · rw [if_neg q3, stw_ne o j 0 (2 ^ riv D) 0 (pw_b e2) (by omega)]
        exact ⟨_, rfl, rfl, f2⟩
    · rw [if_neg q2, if_neg q2]; exact ⟨_, rfl, rfl, f2⟩
  · rw [cif_f qj, cI_f qj, if_pos rfl]; exact ⟨_, rfl, rfl, f2⟩
end
