/-! The reference's stages -/
section
variable {σ : ah_H} {D : DD}
def bBQ (D : DD) (B Q : Nat) : Prop := B < 2 ^ nC D ∧ ∀ c, B.testBit c = true ↔ Q.testBit c = true ∧ c ≠ riv D
def SubQ (D : DD) (S Q : Nat) : Prop := S < 2 ^ nC D ∧ S.testBit (riv D) = true ∧ ∀ c, S.testBit c = true → Q.testBit c = true
theorem tb_lt {Q c n : Nat} (hQ : Q < 2 ^ n) (h : Q.testBit c = true) : c < n := by
  apply Classical.byContradiction
  intro z
  rw [Nat.testBit_lt_two_pow (Nat.lt_of_lt_of_le hQ (Nat.pow_le_pow_right (by decide) (by omega)))] at h
  cases h
theorem sub_eq (hj : jnd D) {S Q : Nat} (hG : Good D Q) (hS : SubQ D S Q) (hc : ∀ c, c < nC D → Q.testBit c = true → c ≠ riv D → ¬ S.testBit c = true → ∀ y, nx D (stD D) c = some y → ¬ S.testBit y = true) : S = Q := by
  have key : ∀ j c, itn (nx D (stD D)) j c = some (riv D) → Q.testBit c = true → S.testBit c = true := by
    intro j
    induction j with
    | zero =>
      intro c hi _
      rw [show c = riv D from Option.some.inj hi]
      exact hS.2.1
    | succ j ih =>
      intro c hi hq
      by_cases e : c = riv D
      · rw [e]; exact hS.2.1
      obtain ⟨y, hy, hqy⟩ := hG.2.2 c hq e
      have hi : (nx D (stD D) c).bind (itn (nx D (stD D)) j) = some (riv D) := hi
      rw [hy] at hi
      have hsy := ih y hi hqy
      apply Classical.byContradiction
      intro z
      exact hc c (tb_lt hG.1 hq) hq e z y hy hsy
  apply Nat.eq_of_testBit_eq
  intro i
  by_cases q : Q.testBit i = true
  · obtain ⟨j, hi⟩ := hj.2 i (tb_lt hG.1 q)
    rw [q, key j i hi q]
  · have : ¬ S.testBit i = true := fun z => q (hS.2.2 i z)
    rw [Bool.eq_false_iff.mpr q, Bool.eq_false_iff.mpr this]
theorem m_jb20 (h : MInv σ D) (hn : ah_I σ 225 42 = nI 0) (hj : jnd D) {B Q : Nat} (hB : bBQ D B Q) (hG : Good D Q) (N0 : Nat) (K11 : Nat → Int32 → Int32 → Int32 → ah_H → Option (Int32 × ah_H)) : ∀ m k fu S fl, k + m = nC D → m < fu → SubQ D S Q → (fl = nI 0 ∧ mis D S = N0 ∧ (∀ c, c < k → B.testBit c = true → ¬ S.testBit c = true → ∀ y, nx D (stD D) c = some y → ¬ S.testBit y = true) ∨ fl = nI 1 ∧ mis D S < N0) → ∃ S' fl', f_X12_joinedBy_20 K11 fu 225 (nI B) (nI S) fl (nI k) σ = K11 225 (nI B) (nI S') fl' σ ∧ SubQ D S' Q ∧ (fl' = nI 0 ∧ (∀ c, c < nC D → B.testBit c = true → ¬ S'.testBit c = true → ∀ y, nx D (stD D) c = some y → ¬ S'.testBit y = true) ∨ fl' = nI 1 ∧ mis D S' < N0) := by
  have hw := h.w
  have b1 := h.bd
  have hst := h.st0 hn
  have p7 : 2 ^ nC D ≤ 128 := Nat.pow_le_pow_right (n := 2) (by omega) b1.1
  have hBl := hB.1
  intro m
  induction m with
  | zero =>
    intro k fu S fl hk hf hS hP
    obtain ⟨fu, rfl⟩ : ∃ q, fu = q + 1 := ⟨fu - 1, by omega⟩
    obtain rfl : k = nC D := by omega
    refine ⟨S, fl, ?_, hS, ?_⟩
    · show f_X12_joinedBy_20_b _ _ _ _ _ _ _ _ = _
      unfold f_X12_joinedBy_20_b f_X12_joinedBy_81
      simp only [to_bq, l_0, l_1, l_2, l_3, l_4, l_5, l_6, l_7, l_8, l_9, l_10, l_11, l_12, l_13, l_14, l_15, l_16, l_17, l_18, l_19, l_20, l_21, l_22, l_23, l_24, l_25, l_26, l_27, l_28, l_29, l_30, l_31, l_32, l_40, l_41, l_42, l_43, l_44, l_45, l_46, l_47, l_48, l_49, l_50, l_51, l_52, l_53, l_54, l_55, l_56, l_57, l_58, l_59, l_60, l_61, l_62, l_63, l_64, l_72, l_97, l_99, l_100, l_104, l_120, l_122, l_128, l_140, l_255, l_256, l_257, l_258, l_260, l_261, l_262, l_364, l_680, l_700, l_701, l_840, l_999, l_1023, l_1024, l_9999, l_10000, l_1000000, lm]
      simp (disch := first | (with_reducible assumption) | omega | exact ⟨by omega, by omega⟩ | ((with_reducible first | apply Wf.wI | apply Wf.wL | apply Wf.fL | apply Wf.fI | apply Wf.fr); (repeat (with_reducible first | assumption | apply Wf.wI | apply Wf.wL | apply Wf.fL | apply Wf.fI | apply Wf.fr)))) only [ck_225, gI_225, gL_225, pI_225, pZ0_225, pZ1_225, pL_225, gR_225_1, gR_225_3, gR_225_4, gR_225_5, gR_225_6, gR_225_7, gR_225_8, gR_225_9, gR_225_10, gR_225_11, gR_225_12, gR_225_13, gR_225_14, gR_225_15, gR_225_16, gR_225_17, gR_225_18, gR_225_19, gR_225_20, gR_225_21, gR_225_35, gR_225_36, gR_225_38, gR_225_39, gR_225_40, gR_225_41, gR_225_43, gR_225_44, gR_225_45, gR_225_48, gR_225_49, gR_225_50, gR_225_51, gR_225_53, gR_225_54, gR_225_55, gR_225_56, gR_225_58, gR_225_59, gR_225_60, gR_225_61, gR_225_62, gR_225_63, gR_225_66, gR_225_67, bq_s, bd_s, mp_s, rz_0, rz_1, bI_rz, zadd, zmul, zsub, le_nI, lt_nI, eq_nI, neg_nI, gen_nI, neg_lt, neg_le, neg_lt', neg_le', nI_lt0, if_true, if_false, ite_true, ite_false, reduceIte, not_true, not_false, and_true, true_and, and_false, false_and, or_true, true_or, or_false, false_or, eq_self, aI_227, rd_C h, Nat.le_refl]
    · rcases hP with ⟨p1, p2, p3⟩ | p
      · exact Or.inl ⟨p1, p3⟩
      · exact Or.inr p
  | succ m ih =>
    intro k fu S fl hk hf hS hP
    obtain ⟨fu, rfl⟩ : ∃ q, fu = q + 1 := ⟨fu - 1, by omega⟩
    have hk' : k < nC D := by omega
    have hSl := hS.1
    have stay : (B.testBit k = true → ¬ S.testBit k = true → ∀ y, nx D (stD D) k = some y → ¬ S.testBit y = true) → ∃ S' fl', f_X12_joinedBy_20 K11 fu 225 (nI B) (nI S) fl (nI (k + 1)) σ = K11 225 (nI B) (nI S') fl' σ ∧ SubQ D S' Q ∧ (fl' = nI 0 ∧ (∀ c, c < nC D → B.testBit c = true → ¬ S'.testBit c = true → ∀ y, nx D (stD D) c = some y → ¬ S'.testBit y = true) ∨ fl' = nI 1 ∧ mis D S' < N0) := by
      intro hx
      refine ih (k + 1) fu S fl (by omega) (by omega) hS ?_
      rcases hP with ⟨p1, p2, p3⟩ | p
      · refine Or.inl ⟨p1, p2, fun c hc => ?_⟩
        by_cases e : c = k
        · rw [e]; exact hx
        · exact p3 c (by omega)
      · exact Or.inr p
    show ∃ S' fl', f_X12_joinedBy_20_b _ _ _ _ _ _ _ _ = _ ∧ _
    unfold f_X12_joinedBy_20_b f_X12_joinedBy_75
    simp only [to_bq, l_0, l_1, l_2, l_3, l_4, l_5, l_6, l_7, l_8, l_9, l_10, l_11, l_12, l_13, l_14, l_15, l_16, l_17, l_18, l_19, l_20, l_21, l_22, l_23, l_24, l_25, l_26, l_27, l_28, l_29, l_30, l_31, l_32, l_40, l_41, l_42, l_43, l_44, l_45, l_46, l_47, l_48, l_49, l_50, l_51, l_52, l_53, l_54, l_55, l_56, l_57, l_58, l_59, l_60, l_61, l_62, l_63, l_64, l_72, l_97, l_99, l_100, l_104, l_120, l_122, l_128, l_140, l_255, l_256, l_257, l_258, l_260, l_261, l_262, l_364, l_680, l_700, l_701, l_840, l_999, l_1023, l_1024, l_9999, l_10000, l_1000000, lm]
    simp (disch := first | (with_reducible assumption) | omega | exact ⟨by omega, by omega⟩ | ((with_reducible first | apply Wf.wI | apply Wf.wL | apply Wf.fL | apply Wf.fI | apply Wf.fr); (repeat (with_reducible first | assumption | apply Wf.wI | apply Wf.wL | apply Wf.fL | apply Wf.fI | apply Wf.fr)))) only [ck_225, gI_225, gL_225, pI_225, pZ0_225, pZ1_225, pL_225, gR_225_1, gR_225_3, gR_225_4, gR_225_5, gR_225_6, gR_225_7, gR_225_8, gR_225_9, gR_225_10, gR_225_11, gR_225_12, gR_225_13, gR_225_14, gR_225_15, gR_225_16, gR_225_17, gR_225_18, gR_225_19, gR_225_20, gR_225_21, gR_225_35, gR_225_36, gR_225_38, gR_225_39, gR_225_40, gR_225_41, gR_225_43, gR_225_44, gR_225_45, gR_225_48, gR_225_49, gR_225_50, gR_225_51, gR_225_53, gR_225_54, gR_225_55, gR_225_56, gR_225_58, gR_225_59, gR_225_60, gR_225_61, gR_225_62, gR_225_63, gR_225_66, gR_225_67, bq_s, bd_s, mp_s, rz_0, rz_1, bI_rz, zadd, zmul, zsub, le_nI, lt_nI, eq_nI, neg_nI, gen_nI, neg_lt, neg_le, neg_lt', neg_le', nI_lt0, if_true, if_false, ite_true, ite_false, reduceIte, not_true, not_false, and_true, true_and, and_false, false_and, or_true, true_or, or_false, false_or, eq_self, aI_227, rd_C h, show (nC D ≤ k) = False from eq_false (by omega)]
    simp only [z_bit (show B < 2147483648 by omega) (show k < 31 by omega), z_bit1 (show S < 2147483648 by omega) (show k < 31 by omega), ite_n]
    by_cases q1 : B.testBit k = true
    · rw [if_pos q1]
      by_cases q2 : S.testBit k = true
      · rw [if_pos q2]
        exact stay (fun _ z => absurd q2 z)
      rw [if_neg q2]
      cases hx : stD D k with
      | none => exact absurd hx (jnd_laid hj hk' ((hB.2 k).mp q1).2)
      | some s =>
        have hs := (hst.2.2 k hk').2 s hx
        have ho := h.t.qoth (c := k) hs
        have hnx : nx D (stD D) k = some (oth D s k) := by unfold nx; rw [hx]; rfl
        rw [m_to h hst hk' hx, bq_s]
        simp only [z_bit (show S < 2147483648 by omega) (show oth D s k < 31 by omega), ite_n, z_set (show k < 31 by omega), zadd]
        by_cases q3 : S.testBit (oth D s k) = true
        · rw [if_pos q3]
          have hms := mis_set (D := D) hk' q2
          refine ih (k + 1) fu (S ||| 2 ^ k) (nI 1) (by omega) (by omega) ⟨or_b hSl (pw_b hk'), (tb_set S k _).mpr (Or.inl hS.2.1), fun c hc => ?_⟩ (Or.inr ⟨rfl, ?_⟩)
          · rcases (tb_set S k c).mp hc with z | z
            · exact hS.2.2 c z
            · rw [z]; exact ((hB.2 k).mp q1).1
          · rcases hP with ⟨-, p2, -⟩ | ⟨-, p2⟩ <;> omega
        · rw [if_neg q3]
          exact stay (fun _ _ y hy => by rw [hnx] at hy; cases hy; exact q3)
    · rw [if_neg q1]
      exact stay (fun z => absurd z q1)
theorem m_jb11 (h : MInv σ D) (hn : ah_I σ 225 42 = nI 0) (hj : jnd D) {B Q : Nat} (hB : bBQ D B Q) (hG : Good D Q) : ∀ N fu S, mis D S ≤ N → N + 1 < fu → SubQ D S Q → f_X12_joinedBy_11 fu 225 (nI B) (nI S) (nI 1) σ = some (nI Q, σ) := by
  have b1 := h.bd
  have fin : ∀ S, SubQ D S Q → (∀ c, c < nC D → B.testBit c = true → ¬ S.testBit c = true → ∀ y, nx D (stD D) c = some y → ¬ S.testBit y = true) → S = Q := fun S hS hc => sub_eq hj hG hS (fun c h1 h2 h3 => hc c h1 ((hB.2 c).mpr ⟨h2, h3⟩))
  have step : ∀ fu S, SubQ D S Q → ∃ S' fl', f_X12_joinedBy_11 (fu + 1) 225 (nI B) (nI S) (nI 1) σ = f_X12_joinedBy_11 fu 225 (nI B) (nI S') fl' σ ∧ SubQ D S' Q ∧ (fl' = nI 0 ∧ S' = Q ∨ fl' = nI 1 ∧ mis D S' < mis D S) := by
    intro fu S hS
    obtain ⟨S', fl', g1, g2, g3⟩ := m_jb20 h hn hj hB hG (mis D S) (f_X12_joinedBy_11 fu) (nC D) 0 5000 S (nI 0) (by omega) (by omega) hS (Or.inl ⟨rfl, rfl, fun c hc => by omega⟩)
    refine ⟨S', fl', ?_, g2, ?_⟩
    · show f_X12_joinedBy_11_b _ _ _ _ _ _ = _
      unfold f_X12_joinedBy_11_b
      rw [l_0, if_neg (show ¬ nI 1 = nI 0 by decide)]
      exact g1
    · rcases g3 with ⟨p1, p2⟩ | p
      · exact Or.inl ⟨p1, fin S' g2 p2⟩
      · exact Or.inr p
  have done : ∀ fu, f_X12_joinedBy_11 (fu + 1) 225 (nI B) (nI Q) (nI 0) σ = some (nI Q, σ) := by
    intro fu
    show f_X12_joinedBy_11_b _ _ _ _ _ _ = _
    unfold f_X12_joinedBy_11_b
    rw [l_0, if_pos rfl]
  intro N
  induction N with
  | zero =>
    intro fu S hm hf hS
    obtain ⟨fu, rfl⟩ : ∃ q, fu = q + 2 := ⟨fu - 2, by omega⟩
    obtain ⟨S', fl', g1, g2, g3⟩ := step (fu + 1) S hS
    rw [g1]
    rcases g3 with ⟨rfl, rfl⟩ | ⟨-, p⟩
    · exact done fu
    · omega
  | succ N ih =>
    intro fu S hm hf hS
    obtain ⟨fu, rfl⟩ : ∃ q, fu = q + 2 := ⟨fu - 2, by omega⟩
    obtain ⟨S', fl', g1, g2, g3⟩ := step (fu + 1) S hS
    rw [g1]
    rcases g3 with ⟨rfl, rfl⟩ | ⟨rfl, p⟩
    · exact done fu
    · exact ih (fu + 1) S' (by omega) (by omega) g2
theorem m_joinedBy (h : MInv σ D) (hn : ah_I σ 225 42 = nI 0) (hj : jnd D) {B Q : Nat} (hB : bBQ D B Q) (hG : Good D Q) : f_X12_joinedBy 225 (nI B) σ = some (nI Q, σ) := by
  have hw := h.w
  have b1 := h.bd
  obtain ⟨e1, e2, -⟩ := h.t.rv hj.1
  have hrv := rd_riv h
  rw [e1] at hrv
  unfold f_X12_joinedBy f_X12_joinedBy_0
  simp only [to_bq, l_0, l_1, l_2, l_3, l_4, l_5, l_6, l_7, l_8, l_9, l_10, l_11, l_12, l_13, l_14, l_15, l_16, l_17, l_18, l_19, l_20, l_21, l_22, l_23, l_24, l_25, l_26, l_27, l_28, l_29, l_30, l_31, l_32, l_40, l_41, l_42, l_43, l_44, l_45, l_46, l_47, l_48, l_49, l_50, l_51, l_52, l_53, l_54, l_55, l_56, l_57, l_58, l_59, l_60, l_61, l_62, l_63, l_64, l_72, l_97, l_99, l_100, l_104, l_120, l_122, l_128, l_140, l_255, l_256, l_257, l_258, l_260, l_261, l_262, l_364, l_680, l_700, l_701, l_840, l_999, l_1023, l_1024, l_9999, l_10000, l_1000000, lm]
  simp (disch := first | (with_reducible assumption) | omega | exact ⟨by omega, by omega⟩ | ((with_reducible first | apply Wf.wI | apply Wf.wL | apply Wf.fL | apply Wf.fI | apply Wf.fr); (repeat (with_reducible first | assumption | apply Wf.wI | apply Wf.wL | apply Wf.fL | apply Wf.fI | apply Wf.fr)))) only [ck_225, gI_225, gL_225, pI_225, pZ0_225, pZ1_225, pL_225, gR_225_1, gR_225_3, gR_225_4, gR_225_5, gR_225_6, gR_225_7, gR_225_8, gR_225_9, gR_225_10, gR_225_11, gR_225_12, gR_225_13, gR_225_14, gR_225_15, gR_225_16, gR_225_17, gR_225_18, gR_225_19, gR_225_20, gR_225_21, gR_225_35, gR_225_36, gR_225_38, gR_225_39, gR_225_40, gR_225_41, gR_225_43, gR_225_44, gR_225_45, gR_225_48, gR_225_49, gR_225_50, gR_225_51, gR_225_53, gR_225_54, gR_225_55, gR_225_56, gR_225_58, gR_225_59, gR_225_60, gR_225_61, gR_225_62, gR_225_63, gR_225_66, gR_225_67, bq_s, bd_s, mp_s, rz_0, rz_1, bI_rz, aI_227, hrv]
  rw [z_one (by omega)]
  have hm := mis_b (D := D) (2 ^ riv D)
  refine m_jb11 h hn hj hB hG (nC D) 5000 (2 ^ riv D) hm (by omega) ⟨pw_b e2, Nat.testBit_two_pow_self, fun c hc => ?_⟩
  rw [Nat.testBit_two_pow] at hc
  have : riv D = c := by simpa using hc
  rw [← this]
  exact hG.2.1
theorem m_sc12 (h : MInv σ D) {Q : Nat} (hQ : Q < 2 ^ nC D) : ∀ m k fu, k + m = nC D → m < fu → f_X12_stageCost_12 fu 225 (iL ((ct D * aou D Q k : Nat) : Int)) (nI Q) (nI k) σ = some (iL ((crt D Q : Nat) : Int), σ) := by
  have hw := h.w
  have b1 := h.bd
  have p7 : 2 ^ nC D ≤ 128 := Nat.pow_le_pow_right (n := 2) (by omega) b1.1
  intro m
  induction m with
  | zero =>
    intro k fu hk hf
    obtain ⟨fu, rfl⟩ : ∃ q, fu = q + 1 := ⟨fu - 1, by omega⟩
    obtain rfl : k = nC D := by omega
    show f_X12_stageCost_12_b _ _ _ _ _ _ = _
    unfold f_X12_stageCost_12_b
    simp only [to_bq, l_0, l_1, l_2, l_3, l_4, l_5, l_6, l_7, l_8, l_9, l_10, l_11, l_12, l_13, l_14, l_15, l_16, l_17, l_18, l_19, l_20, l_21, l_22, l_23, l_24, l_25, l_26, l_27, l_28, l_29, l_30, l_31, l_32, l_40, l_41, l_42, l_43, l_44, l_45, l_46, l_47, l_48, l_49, l_50, l_51, l_52, l_53, l_54, l_55, l_56, l_57, l_58, l_59, l_60, l_61, l_62, l_63, l_64, l_72, l_97, l_99, l_100, l_104, l_120, l_122, l_128, l_140, l_255, l_256, l_257, l_258, l_260, l_261, l_262, l_364, l_680, l_700, l_701, l_840, l_999, l_1023, l_1024, l_9999, l_10000, l_1000000, lm]
    simp (disch := first | (with_reducible assumption) | omega | exact ⟨by omega, by omega⟩ | ((with_reducible first | apply Wf.wI | apply Wf.wL | apply Wf.fL | apply Wf.fI | apply Wf.fr); (repeat (with_reducible first | assumption | apply Wf.wI | apply Wf.wL | apply Wf.fL | apply Wf.fI | apply Wf.fr)))) only [ck_225, gI_225, gL_225, pI_225, pZ0_225, pZ1_225, pL_225, gR_225_1, gR_225_3, gR_225_4, gR_225_5, gR_225_6, gR_225_7, gR_225_8, gR_225_9, gR_225_10, gR_225_11, gR_225_12, gR_225_13, gR_225_14, gR_225_15, gR_225_16, gR_225_17, gR_225_18, gR_225_19, gR_225_20, gR_225_21, gR_225_35, gR_225_36, gR_225_38, gR_225_39, gR_225_40, gR_225_41, gR_225_43, gR_225_44, gR_225_45, gR_225_48, gR_225_49, gR_225_50, gR_225_51, gR_225_53, gR_225_54, gR_225_55, gR_225_56, gR_225_58, gR_225_59, gR_225_60, gR_225_61, gR_225_62, gR_225_63, gR_225_66, gR_225_67, bq_s, bd_s, mp_s, rz_0, rz_1, bI_rz, zadd, zmul, zsub, le_nI, lt_nI, eq_nI, neg_nI, gen_nI, neg_lt, neg_le, neg_lt', neg_le', nI_lt0, if_true, if_false, ite_true, ite_false, reduceIte, not_true, not_false, and_true, true_and, and_false, false_and, or_true, true_or, or_false, false_or, eq_self, aI_227, rd_C h, Nat.le_refl]
    rfl
  | succ m ih =>
    intro k fu hk hf
    obtain ⟨fu, rfl⟩ : ∃ q, fu = q + 1 := ⟨fu - 1, by omega⟩
    have hk' : k < nC D := by omega
    have hi := ih (k + 1) fu (by omega) (by omega)
    have ha := h.t.qare9 hk'
    have hm : ct D * are D k ≤ 99 * 99 := Nat.mul_le_mul (by omega) ha
    have e : ct D * aou D Q (k + 1) = ct D * aou D Q k + ct D * (if Q.testBit k then 0 else are D k) := by
      rw [← Nat.mul_add]; rfl
    show f_X12_stageCost_12_b _ _ _ _ _ _ = _
    unfold f_X12_stageCost_12_b f_X12_stageCost_54
    simp only [to_bq, l_0, l_1, l_2, l_3, l_4, l_5, l_6, l_7, l_8, l_9, l_10, l_11, l_12, l_13, l_14, l_15, l_16, l_17, l_18, l_19, l_20, l_21, l_22, l_23, l_24, l_25, l_26, l_27, l_28, l_29, l_30, l_31, l_32, l_40, l_41, l_42, l_43, l_44, l_45, l_46, l_47, l_48, l_49, l_50, l_51, l_52, l_53, l_54, l_55, l_56, l_57, l_58, l_59, l_60, l_61, l_62, l_63, l_64, l_72, l_97, l_99, l_100, l_104, l_120, l_122, l_128, l_140, l_255, l_256, l_257, l_258, l_260, l_261, l_262, l_364, l_680, l_700, l_701, l_840, l_999, l_1023, l_1024, l_9999, l_10000, l_1000000, lm]
    simp (disch := first | (with_reducible assumption) | omega | exact ⟨by omega, by omega⟩ | ((with_reducible first | apply Wf.wI | apply Wf.wL | apply Wf.fL | apply Wf.fI | apply Wf.fr); (repeat (with_reducible first | assumption | apply Wf.wI | apply Wf.wL | apply Wf.fL | apply Wf.fI | apply Wf.fr)))) only [ck_225, gI_225, gL_225, pI_225, pZ0_225, pZ1_225, pL_225, gR_225_1, gR_225_3, gR_225_4, gR_225_5, gR_225_6, gR_225_7, gR_225_8, gR_225_9, gR_225_10, gR_225_11, gR_225_12, gR_225_13, gR_225_14, gR_225_15, gR_225_16, gR_225_17, gR_225_18, gR_225_19, gR_225_20, gR_225_21, gR_225_35, gR_225_36, gR_225_38, gR_225_39, gR_225_40, gR_225_41, gR_225_43, gR_225_44, gR_225_45, gR_225_48, gR_225_49, gR_225_50, gR_225_51, gR_225_53, gR_225_54, gR_225_55, gR_225_56, gR_225_58, gR_225_59, gR_225_60, gR_225_61, gR_225_62, gR_225_63, gR_225_66, gR_225_67, bq_s, bd_s, mp_s, rz_0, rz_1, bI_rz, zadd, zmul, zsub, le_nI, lt_nI, eq_nI, neg_nI, gen_nI, neg_lt, neg_le, neg_lt', neg_le', nI_lt0, if_true, if_false, ite_true, ite_false, reduceIte, not_true, not_false, and_true, true_and, and_false, false_and, or_true, true_or, or_false, false_or, eq_self, aI_227, rd_C h, show (nC D ≤ k) = False from eq_false (by omega)]
    simp only [z_bit (show Q < 2147483648 by omega) (show k < 31 by omega), ite_n]
    rw [← hi, e]
    by_cases q : Q.testBit k = true
    · rw [if_pos q, if_pos q, Nat.mul_zero, q_0, iadd]
      rfl
    · rw [if_neg q, if_neg q]
      simp (disch := first | (with_reducible assumption) | omega | exact ⟨by omega, by omega⟩ | ((with_reducible first | apply Wf.wI | apply Wf.wL | apply Wf.fL | apply Wf.fI | apply Wf.fr); (repeat (with_reducible first | assumption | apply Wf.wI | apply Wf.wL | apply Wf.fL | apply Wf.fI | apply Wf.fr)))) only [ck_225, gI_225, gL_225, pI_225, pZ0_225, pZ1_225, pL_225, gR_225_1, gR_225_3, gR_225_4, gR_225_5, gR_225_6, gR_225_7, gR_225_8, gR_225_9, gR_225_10, gR_225_11, gR_225_12, gR_225_13, gR_225_14, gR_225_15, gR_225_16, gR_225_17, gR_225_18, gR_225_19, gR_225_20, gR_225_21, gR_225_35, gR_225_36, gR_225_38, gR_225_39, gR_225_40, gR_225_41, gR_225_43, gR_225_44, gR_225_45, gR_225_48, gR_225_49, gR_225_50, gR_225_51, gR_225_53, gR_225_54, gR_225_55, gR_225_56, gR_225_58, gR_225_59, gR_225_60, gR_225_61, gR_225_62, gR_225_63, gR_225_66, gR_225_67, bq_s, bd_s, mp_s, rz_0, rz_1, bI_rz, zadd, zmul, zsub, le_nI, lt_nI, eq_nI, neg_nI, gen_nI, neg_lt, neg_le, neg_lt', neg_le', nI_lt0, aI_227, aI_230, rd_ct h, rd_are h, toL_n, iadd]
      congr 1
theorem m_stageCost (h : MInv σ D) (hn : ah_I σ 225 42 = nI 0) (hj : jnd D) {B Q : Nat} (hB : bBQ D B Q) (hG : Good D Q) : f_X12_stageCost 225 (nI B) σ = some (iL ((crt D Q : Nat) : Int), σ) := by
  have b1 := h.bd
  unfold f_X12_stageCost f_X12_stageCost_0
  simp only [to_bq, l_0, l_1, l_2, l_3, l_4, l_5, l_6, l_7, l_8, l_9, l_10, l_11, l_12, l_13, l_14, l_15, l_16, l_17, l_18, l_19, l_20, l_21, l_22, l_23, l_24, l_25, l_26, l_27, l_28, l_29, l_30, l_31, l_32, l_40, l_41, l_42, l_43, l_44, l_45, l_46, l_47, l_48, l_49, l_50, l_51, l_52, l_53, l_54, l_55, l_56, l_57, l_58, l_59, l_60, l_61, l_62, l_63, l_64, l_72, l_97, l_99, l_100, l_104, l_120, l_122, l_128, l_140, l_255, l_256, l_257, l_258, l_260, l_261, l_262, l_364, l_680, l_700, l_701, l_840, l_999, l_1023, l_1024, l_9999, l_10000, l_1000000, lm]
  rw [ck_225 h.w, m_joinedBy h hn hj hB hG, bq_s, q_0]
  exact m_sc12 h hG.1 (nC D) 0 5000 (by omega) (by omega)
/-- the best so far -/
abbrev Bst : Type := Option (Nat × (Nat → Nat))
def upd' (b : Bst) (v : Nat) (w : Nat → Nat) : Bst := match b with
  | none => some (v, w)
  | some (x, o) => if v < x then some (v, w) else some (x, o)
def BS (σ : ah_H) (D : DD) (b : Bst) : Prop := match b with
  | none => ah_L σ 225 68 = iL (-1)
  | some (x, o) => ah_L σ 225 68 = iL ((x : Nat) : Int) ∧ x ≤ 10000000 ∧ ∀ i, i < nC D - 1 → ah_I σ 270 i = nI (o i)
theorem BS.fr {τ : ah_H} {b : Bst} (h : BS σ D b) (e1 : ah_L τ 225 68 = ah_L σ 225 68) (e2 : ∀ i, ah_I τ 270 i = ah_I σ 270 i) : BS τ D b := by
  cases b with
  | none => exact e1.trans h
  | some p => exact ⟨e1.trans h.1, h.2.1, fun i hi => (e2 i).trans (h.2.2 i hi)⟩
theorem upd_lt {b : Bst} {va vx : Nat} {wa wx : Nat → Nat} (h : vx < va) : upd' (upd' b va wa) vx wx = upd' b vx wx := by
  cases b with
  | none => show (if vx < va then _ else _) = _; rw [if_pos h]; rfl
  | some p =>
    obtain ⟨x, o⟩ := p
    show upd' (if va < x then some (va, wa) else some (x, o)) vx wx = (if vx < x then some (vx, wx) else some (x, o))
    by_cases q : va < x
    · rw [if_pos q, if_pos (by omega)]
      show (if vx < va then _ else _) = _
      rw [if_pos h]
    · rw [if_neg q]; rfl
theorem upd_ge {b : Bst} {va vx : Nat} {wa wx : Nat → Nat} (h : ¬ vx < va) : upd' (upd' b va wa) vx wx = upd' b va wa := by
  cases b with
  | none => show (if vx < va then _ else _) = _; rw [if_neg h]; rfl
  | some p =>
    obtain ⟨x, o⟩ := p
    show upd' (if va < x then some (va, wa) else some (x, o)) vx wx = (if va < x then some (va, wa) else some (x, o))
    by_cases q : va < x
    · rw [if_pos q]
      show (if vx < va then _ else _) = _
      rw [if_neg h]
    · rw [if_neg q]
      show (if vx < x then _ else _) = _
      rw [if_neg (by omega)]
/-- what the orders write -/
def Xy (a j : Nat) : Prop := a = 225 ∧ j = 68 ∨ a = 269 ∨ a = 270
theorem Xy_q : ∀ a j, Xy a j → Xq a j := by
  intro a j h; unfold Xy at h; unfold Xq; omega
theorem m_or41 (S : Nat → Int32 → Int32 → Int64 → ah_H → Option ah_H) {k : Nat} (hk7 : k ≤ 7) {p : Nat → Nat} : ∀ m i fu (τ : ah_H), i + m = k → m < fu → Wf τ → (∀ j, j < k → ah_I τ 269 j = nI (p j)) → ∃ ρ, f_X12_orders_41 S fu 225 (nI k) (nI i) τ = some ρ ∧ Fr (XR 270) τ ρ ∧ (∀ j, i ≤ j → j < k → ah_I ρ 270 j = nI (p j)) ∧ ∀ j, j < i → ah_I ρ 270 j = ah_I τ 270 j := by
  intro m
  induction m with
  | zero =>
    intro i fu τ hi hf hw hp
    obtain ⟨fu, rfl⟩ : ∃ q, fu = q + 1 := ⟨fu - 1, by omega⟩
    obtain rfl : i = k := by omega
    refine ⟨τ, ?_, Fr.rfl, fun j h1 h2 => by omega, fun j _ => rfl⟩
    show f_X12_orders_41_b _ _ _ _ _ _ = _
    unfold f_X12_orders_41_b
    rw [if_pos (Int32.le_refl _)]
  | succ m ih =>
    intro i fu τ hi hf hw hp
    obtain ⟨fu, rfl⟩ : ∃ q, fu = q + 1 := ⟨fu - 1, by omega⟩
    show ∃ ρ, f_X12_orders_41_b _ _ _ _ _ _ = _ ∧ _
    unfold f_X12_orders_41_b
    simp only [to_bq, l_0, l_1, l_2, l_3, l_4, l_5, l_6, l_7, l_8, l_9, l_10, l_11, l_12, l_13, l_14, l_15, l_16, l_17, l_18, l_19, l_20, l_21, l_22, l_23, l_24, l_25, l_26, l_27, l_28, l_29, l_30, l_31, l_32, l_40, l_41, l_42, l_43, l_44, l_45, l_46, l_47, l_48, l_49, l_50, l_51, l_52, l_53, l_54, l_55, l_56, l_57, l_58, l_59, l_60, l_61, l_62, l_63, l_64, l_72, l_97, l_99, l_100, l_104, l_120, l_122, l_128, l_140, l_255, l_256, l_257, l_258, l_260, l_261, l_262, l_364, l_680, l_700, l_701, l_840, l_999, l_1023, l_1024, l_9999, l_10000, l_1000000, lm]
    simp (disch := first | (with_reducible assumption) | omega | exact ⟨by omega, by omega⟩ | ((with_reducible first | apply Wf.wI | apply Wf.wL | apply Wf.fL | apply Wf.fI | apply Wf.fr); (repeat (with_reducible first | assumption | apply Wf.wI | apply Wf.wL | apply Wf.fL | apply Wf.fI | apply Wf.fr)))) only [ck_225, gI_225, gL_225, pI_225, pZ0_225, pZ1_225, pL_225, gR_225_1, gR_225_3, gR_225_4, gR_225_5, gR_225_6, gR_225_7, gR_225_8, gR_225_9, gR_225_10, gR_225_11, gR_225_12, gR_225_13, gR_225_14, gR_225_15, gR_225_16, gR_225_17, gR_225_18, gR_225_19, gR_225_20, gR_225_21, gR_225_35, gR_225_36, gR_225_38, gR_225_39, gR_225_40, gR_225_41, gR_225_43, gR_225_44, gR_225_45, gR_225_48, gR_225_49, gR_225_50, gR_225_51, gR_225_53, gR_225_54, gR_225_55, gR_225_56, gR_225_58, gR_225_59, gR_225_60, gR_225_61, gR_225_62, gR_225_63, gR_225_66, gR_225_67, bq_s, bd_s, mp_s, rz_0, rz_1, bI_rz, zadd, zmul, zsub, le_nI, lt_nI, eq_nI, neg_nI, gen_nI, neg_lt, neg_le, neg_lt', neg_le', nI_lt0, if_true, if_false, ite_true, ite_false, reduceIte, not_true, not_false, and_true, true_and, and_false, false_and, or_true, true_or, or_false, false_or, eq_self, aI_269, sI_270, hp i (by omega), show (k ≤ i) = False from eq_false (by omega)]
    have f1 : Fr (XR 270) τ (ah_wI τ 270 i (nI (p i))) := Fr.rfl.wI rfl
    obtain ⟨ρ, g1, g2, g3, g4⟩ := ih (i + 1) fu (ah_wI τ 270 i (nI (p i))) (by omega) (by omega) (hw.wI _ _ _) (fun j hj => by rw [rI_ne (Or.inl (by omega))]; exact hp j hj)
    refine ⟨ρ, g1, f1.trans g2, fun j h1 h2 => ?_, fun j hj => ?_⟩
    · by_cases e : j = i
      · subst e; rw [g4 j (by omega), rI_eq]
      · exact g3 j (by omega) h2
    · rw [g4 j (by omega), rI_ne (Or.inr (by omega))]
theorem m_or33 (S : Nat → Int32 → Int32 → Int64 → ah_H → Option ah_H) {k sum : Nat} (hC : nC D ≤ 7) (hk : k + 1 = nC D) (hs : sum ≤ 10000000) {p : Nat → Nat} (hw : Wf σ) (hp : ∀ j, j < k → ah_I σ 269 j = nI (p j)) (w : Nat → Nat) (hwp : ∀ i, i < k → w i = p i) : ∃ ρ, f_X12_orders_33 S 225 (nI k) (iL ((sum : Nat) : Int)) σ = some ρ ∧ Fr Xy σ ρ ∧ (∀ j, j < k → ah_I ρ 269 j = nI (p j)) ∧ BS ρ D (some (sum, w)) := by
  unfold f_X12_orders_33
  simp only [to_bq, l_0, l_1, l_2, l_3, l_4, l_5, l_6, l_7, l_8, l_9, l_10, l_11, l_12, l_13, l_14, l_15, l_16, l_17, l_18, l_19, l_20, l_21, l_22, l_23, l_24, l_25, l_26, l_27, l_28, l_29, l_30, l_31, l_32, l_40, l_41, l_42, l_43, l_44, l_45, l_46, l_47, l_48, l_49, l_50, l_51, l_52, l_53, l_54, l_55, l_56, l_57, l_58, l_59, l_60, l_61, l_62, l_63, l_64, l_72, l_97, l_99, l_100, l_104, l_120, l_122, l_128, l_140, l_255, l_256, l_257, l_258, l_260, l_261, l_262, l_364, l_680, l_700, l_701, l_840, l_999, l_1023, l_1024, l_9999, l_10000, l_1000000, lm]
  rw [pL_225 hw, bq_s]
  obtain ⟨ρ, g1, g2, g3, g4⟩ := m_or41 S (k := k) (by omega) (p := p) k 0 5000 (ah_wL σ 225 68 (iL ((sum : Nat) : Int))) (by omega) (by omega) (hw.wL _ _ _) (fun j hj => hp j hj)
  refine ⟨ρ, g1, (Fr.rfl.wL (by unfold Xy; omega)).trans (g2.mono (fun a j z => by unfold XR at z; unfold Xy; omega)), fun j hj => ?_, ?_⟩
  · rw [g2.I (by unfold XR; omega)]; exact hp j hj
  · refine ⟨?_, hs, fun i hi => ?_⟩
    · rw [g2.L (by unfold XR; omega), rL_eq]
    · rw [g3 i (by omega) (by omega), hwp i (by omega)]
theorem bB_add {B Q c : Nat} (hB : bBQ D B Q) (hc : c < nC D) (hr : c ≠ riv D) : bBQ D (B ||| 2 ^ c) (Q ||| 2 ^ c) := by
  refine ⟨or_b hB.1 (pw_b hc), fun o => ?_⟩
  rw [tb_set, tb_set, hB.2 o]
  constructor
  · rintro (⟨z1, z2⟩ | z)
    · exact ⟨Or.inl z1, z2⟩
    · exact ⟨Or.inr z, by rw [z]; exact hr⟩
  · rintro ⟨z1 | z1, z2⟩
    · exact Or.inl ⟨z1, z2⟩
    · exact Or.inr z1
theorem m_orders (h0 : MInv σ D) (hn0 : ah_I σ 225 42 = nI 0) (hj : jnd D) : ∀ m k Q B sum d τ (p : Nat → Nat) (b : Bst), k + m + 1 = nC D → m < d → Good D Q → mis D Q = m → bBQ D B Q → Fr Xy σ τ → (∀ j, j < k → ah_I τ 269 j = nI (p j)) → BS τ D b → sum + m * 68607 ≤ 1000000 → ∃ ρ, f_or d 225 (nI k) (nI B) (iL ((sum : Nat) : Int)) τ = some ρ ∧ Fr Xy σ ρ ∧ (∀ j, j < k → ah_I ρ 269 j = nI (p j)) ∧ BS ρ D (upd' b (sum + Rst D Q) (fun i => if i < k then p i else grd D Q (i - k))) := by
  have b1 := h0.bd
  obtain ⟨e1, e2, -⟩ := h0.t.rv hj.1
  have p7 : 2 ^ nC D ≤ 128 := Nat.pow_le_pow_right (n := 2) (by omega) b1.1
  intro m
  induction m with
  | zero =>
    intro k Q B sum d τ p b hk hd hG hm hB hfr hp hb hs
    obtain ⟨d, rfl⟩ : ∃ q, d = q + 1 := ⟨d - 1, by omega⟩
    have h := h0.q (hfr.mono Xy_q)
    have hw := h.w
    have hR : Rst D Q = 0 := by rw [Rst_eq hG.1, if_pos ((mis_0 hG.1).mp hm)]
    show ∃ ρ, b_X12_orders (f_or d) _ _ _ _ _ = _ ∧ _
    unfold b_X12_orders f_X12_orders_0
    simp only [to_bq, l_0, l_1, l_2, l_3, l_4, l_5, l_6, l_7, l_8, l_9, l_10, l_11, l_12, l_13, l_14, l_15, l_16, l_17, l_18, l_19, l_20, l_21, l_22, l_23, l_24, l_25, l_26, l_27, l_28, l_29, l_30, l_31, l_32, l_40, l_41, l_42, l_43, l_44, l_45, l_46, l_47, l_48, l_49, l_50, l_51, l_52, l_53, l_54, l_55, l_56, l_57, l_58, l_59, l_60, l_61, l_62, l_63, l_64, l_72, l_97, l_99, l_100, l_104, l_120, l_122, l_128, l_140, l_255, l_256, l_257, l_258, l_260, l_261, l_262, l_364, l_680, l_700, l_701, l_840, l_999, l_1023, l_1024, l_9999, l_10000, l_1000000, lm]
    simp (disch := first | (with_reducible assumption) | omega | exact ⟨by omega, by omega⟩ | ((with_reducible first | apply Wf.wI | apply Wf.wL | apply Wf.fL | apply Wf.fI | apply Wf.fr); (repeat (with_reducible first | assumption | apply Wf.wI | apply Wf.wL | apply Wf.fL | apply Wf.fI | apply Wf.fr)))) only [ck_225, gI_225, gL_225, pI_225, pZ0_225, pZ1_225, pL_225, gR_225_1, gR_225_3, gR_225_4, gR_225_5, gR_225_6, gR_225_7, gR_225_8, gR_225_9, gR_225_10, gR_225_11, gR_225_12, gR_225_13, gR_225_14, gR_225_15, gR_225_16, gR_225_17, gR_225_18, gR_225_19, gR_225_20, gR_225_21, gR_225_35, gR_225_36, gR_225_38, gR_225_39, gR_225_40, gR_225_41, gR_225_43, gR_225_44, gR_225_45, gR_225_48, gR_225_49, gR_225_50, gR_225_51, gR_225_53, gR_225_54, gR_225_55, gR_225_56, gR_225_58, gR_225_59, gR_225_60, gR_225_61, gR_225_62, gR_225_63, gR_225_66, gR_225_67, bq_s, bd_s, mp_s, rz_0, rz_1, bI_rz, zadd, zmul, zsub, le_nI, lt_nI, eq_nI, neg_nI, gen_nI, neg_lt, neg_le, neg_lt', neg_le', nI_lt0, aI_227, rd_C h, if_true, if_false, ite_true, ite_false, reduceIte, not_true, not_false, and_true, true_and, and_false, false_and, or_true, true_or, or_false, false_or, eq_self, show (k = nC D - 1) = True from eq_true (by omega)]
    rw [hR, Nat.add_zero]
    cases b with
    | none =>
      have hb : ah_L τ 225 68 = iL (-1) := hb
      rw [hb, q_m1]
      simp only [cmp_e (show LB (-1) from ⟨by omega, by omega⟩) (show LB (-1) from ⟨by omega, by omega⟩)]
      rw [if_pos trivial]
      obtain ⟨ρ, g1, g2, g3, g4⟩ := m_or33 (D := D) (f_or d) b1.1 hk (show sum ≤ 10000000 by omega) hw hp (fun i => if i < k then p i else grd D Q (i - k)) (fun i hi => if_pos hi)
      exact ⟨ρ, g1, hfr.trans g2, g3, g4⟩
    | some x =>
      obtain ⟨x, o⟩ := x
      obtain ⟨hb1, hb2, hb3⟩ := hb
      rw [hb1, q_m1]
      simp only [cmp_e (show LB ((x : Nat) : Int) from ⟨by omega, by omega⟩) (show LB (-1) from ⟨by omega, by omega⟩), cmp_lt (show LB ((sum : Nat) : Int) from ⟨by omega, by omega⟩) (show LB ((x : Nat) : Int) from ⟨by omega, by omega⟩), bq_s]
      rw [if_neg (by omega)]
      show ∃ ρ, _ ∧ _ ∧ _ ∧ BS ρ D (if sum < x then some (sum, _) else some (x, o))
      by_cases q : sum < x
      · rw [if_pos q, if_pos (by omega)]
        obtain ⟨ρ, g1, g2, g3, g4⟩ := m_or33 (D := D) (f_or d) b1.1 hk (show sum ≤ 10000000 by omega) hw hp (fun i => if i < k then p i else grd D Q (i - k)) (fun i hi => if_pos hi)
        exact ⟨ρ, g1, hfr.trans g2, g3, g4⟩
      · rw [if_neg q, if_neg (by omega)]
        exact ⟨τ, rfl, hfr, hp, hb1, hb2, hb3⟩
  | succ m ih =>
    intro k Q B sum d τ p b hk hd hG hm hB hfr hp hb hs
    obtain ⟨d, rfl⟩ : ∃ q, d = q + 1 := ⟨d - 1, by omega⟩
    have hne : Q ≠ 2 ^ nC D - 1 := fun e => by have := (mis_0 hG.1).mpr e; omega
    obtain ⟨a0, ga, ga1, ga2, ga3, ga4⟩ := Rst_riv h0.t h0.n hj hG.1 hG.2.1 hne
    have hcr := crt_b h0.t Q
    -- the loop over corners
    have loop : ∀ m' x fu ρ0, x + m' = nC D → m' < fu → Fr Xy σ ρ0 → (∀ j, j < k → ah_I ρ0 269 j = nI (p j)) → BS ρ0 D (match bsl (stB D Q) (fvs D Q) x with
        | none => b
        | some a => upd' b (sum + fvs D Q a) (fun i => if i < k then p i else if i = k then a else grd D (Q ||| 2 ^ a) (i - k - 1))) → ∃ ρ, f_X12_orders_71 (f_or d) fu 225 (nI k) (nI B) (iL ((sum : Nat) : Int)) (nI x) ρ0 = some ρ ∧ Fr Xy σ ρ ∧ (∀ j, j < k → ah_I ρ 269 j = nI (p j)) ∧ BS ρ D (upd' b (sum + Rst D Q) (fun i => if i < k then p i else grd D Q (i - k))) := by
      intro m'
      induction m' with
      | zero =>
        intro x fu ρ0 hx hf hf0 hp0 hb0
        obtain ⟨fu, rfl⟩ : ∃ q, fu = q + 1 := ⟨fu - 1, by omega⟩
        obtain rfl : x = nC D := by omega
        have h := h0.q (hf0.mono Xy_q)
        have hw := h.w
        refine ⟨ρ0, ?_, hf0, hp0, ?_⟩
        · show f_X12_orders_71_b _ _ _ _ _ _ _ _ = _
          unfold f_X12_orders_71_b
          simp only [to_bq, l_0, l_1, l_2, l_3, l_4, l_5, l_6, l_7, l_8, l_9, l_10, l_11, l_12, l_13, l_14, l_15, l_16, l_17, l_18, l_19, l_20, l_21, l_22, l_23, l_24, l_25, l_26, l_27, l_28, l_29, l_30, l_31, l_32, l_40, l_41, l_42, l_43, l_44, l_45, l_46, l_47, l_48, l_49, l_50, l_51, l_52, l_53, l_54, l_55, l_56, l_57, l_58, l_59, l_60, l_61, l_62, l_63, l_64, l_72, l_97, l_99, l_100, l_104, l_120, l_122, l_128, l_140, l_255, l_256, l_257, l_258, l_260, l_261, l_262, l_364, l_680, l_700, l_701, l_840, l_999, l_1023, l_1024, l_9999, l_10000, l_1000000, lm]
          simp (disch := first | (with_reducible assumption) | omega | exact ⟨by omega, by omega⟩ | ((with_reducible first | apply Wf.wI | apply Wf.wL | apply Wf.fL | apply Wf.fI | apply Wf.fr); (repeat (with_reducible first | assumption | apply Wf.wI | apply Wf.wL | apply Wf.fL | apply Wf.fI | apply Wf.fr)))) only [ck_225, gI_225, gL_225, pI_225, pZ0_225, pZ1_225, pL_225, gR_225_1, gR_225_3, gR_225_4, gR_225_5, gR_225_6, gR_225_7, gR_225_8, gR_225_9, gR_225_10, gR_225_11, gR_225_12, gR_225_13, gR_225_14, gR_225_15, gR_225_16, gR_225_17, gR_225_18, gR_225_19, gR_225_20, gR_225_21, gR_225_35, gR_225_36, gR_225_38, gR_225_39, gR_225_40, gR_225_41, gR_225_43, gR_225_44, gR_225_45, gR_225_48, gR_225_49, gR_225_50, gR_225_51, gR_225_53, gR_225_54, gR_225_55, gR_225_56, gR_225_58, gR_225_59, gR_225_60, gR_225_61, gR_225_62, gR_225_63, gR_225_66, gR_225_67, bq_s, bd_s, mp_s, rz_0, rz_1, bI_rz, zadd, zmul, zsub, le_nI, lt_nI, eq_nI, neg_nI, gen_nI, neg_lt, neg_le, neg_lt', neg_le', nI_lt0, if_true, if_false, ite_true, ite_false, reduceIte, not_true, not_false, and_true, true_and, and_false, false_and, or_true, true_or, or_false, false_or, eq_self, aI_227, rd_C h, Nat.le_refl]
        · have ga' : bsl (stB D Q) (fvs D Q) (nC D) = some a0 := ga
          rw [ga'] at hb0
          rw [ga3]
          have : (fun i => if i < k then p i else if i = k then a0 else grd D (Q ||| 2 ^ a0) (i - k - 1)) = (fun i => if i < k then p i else grd D Q (i - k)) := by
            funext i
            by_cases z : i < k
            · rw [if_pos z, if_pos z]
            · rw [if_neg z, if_neg z]
              by_cases z2 : i = k
              · rw [if_pos z2, show i - k = 0 by omega]
                show a0 = (gst D Q).getD 0
                rw [ga]; rfl
              · rw [if_neg z2, show i - k = (i - k - 1) + 1 by omega]
                show _ = grd D (Q ||| 2 ^ (gst D Q).getD 0) (i - k - 1)
                rw [ga]; rfl
          rw [← this]
          exact hb0
      | succ m' ihl =>
        intro x fu ρ0 hx hf hf0 hp0 hb0
        obtain ⟨fu, rfl⟩ : ∃ q, fu = q + 1 := ⟨fu - 1, by omega⟩
        have hx' : x < nC D := by omega
        have h := h0.q (hf0.mono Xy_q)
        have hw := h.w
        have hn : ah_I ρ0 225 42 = nI 0 := (hf0.I (by unfold Xy; omega)).trans hn0
        have hst := h.st0 hn
        have hrv := rd_riv h
        rw [e1] at hrv
        have hBl := hB.1
        have hQl := hG.1
        have e0 : bsl (stB D Q) (fvs D Q) (x + 1) = if stB D Q x = none then bsl (stB D Q) (fvs D Q) x else match bsl (stB D Q) (fvs D Q) x with
          | none => some x
          | some b => if fvs D Q x < fvs D Q b then some x else some b := rfl
        have skip : ¬ blb D Q x → ∃ ρ, f_X12_orders_71 (f_or d) fu 225 (nI k) (nI B) (iL ((sum : Nat) : Int)) (nI (x + 1)) ρ0 = some ρ ∧ Fr Xy σ ρ ∧ (∀ j, j < k → ah_I ρ 269 j = nI (p j)) ∧ BS ρ D (upd' b (sum + Rst D Q) (fun i => if i < k then p i else grd D Q (i - k))) := by
          intro q
          rw [if_pos (Classical.byContradiction (fun z => q (stB_n.mp z)))] at e0
          exact ihl (x + 1) fu ρ0 (by omega) (by omega) hf0 hp0 (by rw [e0]; exact hb0)
        show ∃ ρ, f_X12_orders_71_b _ _ _ _ _ _ _ _ = _ ∧ _
        unfold f_X12_orders_71_b f_X12_orders_162
        simp only [to_bq, l_0, l_1, l_2, l_3, l_4, l_5, l_6, l_7, l_8, l_9, l_10, l_11, l_12, l_13, l_14, l_15, l_16, l_17, l_18, l_19, l_20, l_21, l_22, l_23, l_24, l_25, l_26, l_27, l_28, l_29, l_30, l_31, l_32, l_40, l_41, l_42, l_43, l_44, l_45, l_46, l_47, l_48, l_49, l_50, l_51, l_52, l_53, l_54, l_55, l_56, l_57, l_58, l_59, l_60, l_61, l_62, l_63, l_64, l_72, l_97, l_99, l_100, l_104, l_120, l_122, l_128, l_140, l_255, l_256, l_257, l_258, l_260, l_261, l_262, l_364, l_680, l_700, l_701, l_840, l_999, l_1023, l_1024, l_9999, l_10000, l_1000000, lm]
        simp (disch := first | (with_reducible assumption) | omega | exact ⟨by omega, by omega⟩ | ((with_reducible first | apply Wf.wI | apply Wf.wL | apply Wf.fL | apply Wf.fI | apply Wf.fr); (repeat (with_reducible first | assumption | apply Wf.wI | apply Wf.wL | apply Wf.fL | apply Wf.fI | apply Wf.fr)))) only [ck_225, gI_225, gL_225, pI_225, pZ0_225, pZ1_225, pL_225, gR_225_1, gR_225_3, gR_225_4, gR_225_5, gR_225_6, gR_225_7, gR_225_8, gR_225_9, gR_225_10, gR_225_11, gR_225_12, gR_225_13, gR_225_14, gR_225_15, gR_225_16, gR_225_17, gR_225_18, gR_225_19, gR_225_20, gR_225_21, gR_225_35, gR_225_36, gR_225_38, gR_225_39, gR_225_40, gR_225_41, gR_225_43, gR_225_44, gR_225_45, gR_225_48, gR_225_49, gR_225_50, gR_225_51, gR_225_53, gR_225_54, gR_225_55, gR_225_56, gR_225_58, gR_225_59, gR_225_60, gR_225_61, gR_225_62, gR_225_63, gR_225_66, gR_225_67, bq_s, bd_s, mp_s, rz_0, rz_1, bI_rz, zadd, zmul, zsub, le_nI, lt_nI, eq_nI, neg_nI, gen_nI, neg_lt, neg_le, neg_lt', neg_le', nI_lt0, if_true, if_false, ite_true, ite_false, reduceIte, not_true, not_false, and_true, true_and, and_false, false_and, or_true, true_or, or_false, false_or, eq_self, aI_227, rd_C h, hrv, show (nC D ≤ x) = False from eq_false (by omega)]
        by_cases q0 : x = riv D
        · rw [if_pos q0]
          exact skip (fun z => z.1 (by rw [q0]; exact hG.2.1))
        rw [if_neg q0]
        simp only [z_bit1 (show B < 2147483648 by omega) (show x < 31 by omega)]
        by_cases q1 : B.testBit x = true
        · rw [if_pos q1]
          exact skip (fun z => z.1 ((hB.2 x).mp q1).1)
        rw [if_neg q1]
        have q1' : ¬ Q.testBit x = true := fun z => q1 ((hB.2 x).mpr ⟨z, q0⟩)
        cases hxs : stD D x with
        | none => exact absurd hxs (jnd_laid hj hx' q0)
        | some s =>
          have hs' := (hst.2.2 x hx').2 s hxs
          have ho := h.t.qoth (c := x) hs'
          have hnx : nx D (stD D) x = some (oth D s x) := by unfold nx; rw [hxs]; rfl
          have go : blb D Q x → ∃ ρ, f_X12_orders_134 (f_or d) (f_X12_orders_71 (f_or d) fu) 225 (nI k) (nI B) (iL ((sum : Nat) : Int)) (nI x) ρ0 = some ρ ∧ Fr Xy σ ρ ∧ (∀ j, j < k → ah_I ρ 269 j = nI (p j)) ∧ BS ρ D (upd' b (sum + Rst D Q) (fun i => if i < k then p i else grd D Q (i - k))) := by
            intro hbl
            have f1 : Fr Xy σ (ah_wI ρ0 269 k (nI x)) := hf0.wI (by unfold Xy; omega)
            have h1 := h0.q (f1.mono Xy_q)
            have hn1 : ah_I (ah_wI ρ0 269 k (nI x)) 225 42 = nI 0 := (f1.I (by unfold Xy; omega)).trans hn0
            unfold f_X12_orders_134 f_X12_orders_162
            simp only [to_bq, l_0, l_1, l_2, l_3, l_4, l_5, l_6, l_7, l_8, l_9, l_10, l_11, l_12, l_13, l_14, l_15, l_16, l_17, l_18, l_19, l_20, l_21, l_22, l_23, l_24, l_25, l_26, l_27, l_28, l_29, l_30, l_31, l_32, l_40, l_41, l_42, l_43, l_44, l_45, l_46, l_47, l_48, l_49, l_50, l_51, l_52, l_53, l_54, l_55, l_56, l_57, l_58, l_59, l_60, l_61, l_62, l_63, l_64, l_72, l_97, l_99, l_100, l_104, l_120, l_122, l_128, l_140, l_255, l_256, l_257, l_258, l_260, l_261, l_262, l_364, l_680, l_700, l_701, l_840, l_999, l_1023, l_1024, l_9999, l_10000, l_1000000, lm]
            simp (disch := first | (with_reducible assumption) | omega | exact ⟨by omega, by omega⟩ | ((with_reducible first | apply Wf.wI | apply Wf.wL | apply Wf.fL | apply Wf.fI | apply Wf.fr); (repeat (with_reducible first | assumption | apply Wf.wI | apply Wf.wL | apply Wf.fL | apply Wf.fI | apply Wf.fr)))) only [ck_225, gI_225, gL_225, pI_225, pZ0_225, pZ1_225, pL_225, gR_225_1, gR_225_3, gR_225_4, gR_225_5, gR_225_6, gR_225_7, gR_225_8, gR_225_9, gR_225_10, gR_225_11, gR_225_12, gR_225_13, gR_225_14, gR_225_15, gR_225_16, gR_225_17, gR_225_18, gR_225_19, gR_225_20, gR_225_21, gR_225_35, gR_225_36, gR_225_38, gR_225_39, gR_225_40, gR_225_41, gR_225_43, gR_225_44, gR_225_45, gR_225_48, gR_225_49, gR_225_50, gR_225_51, gR_225_53, gR_225_54, gR_225_55, gR_225_56, gR_225_58, gR_225_59, gR_225_60, gR_225_61, gR_225_62, gR_225_63, gR_225_66, gR_225_67, bq_s, bd_s, mp_s, rz_0, rz_1, bI_rz, zadd, zmul, zsub, le_nI, lt_nI, eq_nI, neg_nI, gen_nI, neg_lt, neg_le, neg_lt', neg_le', nI_lt0, sI_269, m_stageCost h1 hn1 hj hB hG, iadd]
            rw [z_set (by omega), show ((sum : Nat) : Int) + ((crt D Q : Nat) : Int) = ((sum + crt D Q : Nat) : Int) by omega]
            have hms := mis_set (D := D) hx' q1'
            obtain ⟨ρ1, g1, g2, g3, g4⟩ := ih (k + 1) (Q ||| 2 ^ x) (B ||| 2 ^ x) (sum + crt D Q) d _ (fun i => if i = k then x else p i) _ (by omega) (by omega) (Good_add hG hx' hbl) (by omega) (bB_add hB hx' q0) f1 (fun j hj => by
              rw [ah_I_wI]
              by_cases z : j = k
              · rw [if_pos ⟨rfl, z⟩, if_pos z]
              · rw [if_neg (fun w => z w.2), if_neg z]; exact hp0 j (by omega)) (hb0.fr (ah_L_wI ..) (fun i => rI_ne (Or.inl (by omega)))) (by omega)
            rw [g1, bq_s, zadd]
            rw [if_neg (stB_n.mpr hbl)] at e0
            have hw' : (fun i => if i < k + 1 then (if i = k then x else p i) else grd D (Q ||| 2 ^ x) (i - (k + 1))) = (fun i => if i < k then p i else if i = k then x else grd D (Q ||| 2 ^ x) (i - k - 1)) := by
              funext i
              by_cases z : i < k
              · rw [if_pos (by omega), if_neg (by omega), if_pos z]
              · rw [if_neg z]
                by_cases z2 : i = k
                · rw [if_pos (by omega), if_pos z2, if_pos z2]
                · rw [if_neg (by omega), if_neg z2, show i - (k + 1) = i - k - 1 by omega]
            rw [hw', show sum + crt D Q + Rst D (Q ||| 2 ^ x) = sum + fvs D Q x by unfold fvs; omega] at g4
            refine ihl (x + 1) fu ρ1 (by omega) (by omega) g2 (fun j hj => by
              have := g3 j (by omega)
              rw [if_neg (by omega)] at this
              exact this) ?_
            rw [e0]
            cases hbs : bsl (stB D Q) (fvs D Q) x with
            | none =>
              rw [hbs] at g4
              exact g4
            | some a =>
              rw [hbs] at g4
              show BS ρ1 D (match (if fvs D Q x < fvs D Q a then some x else some a) with
                | none => b
                | some a => _)
              by_cases z : fvs D Q x < fvs D Q a
              · rw [if_pos z]
                have g4 : BS ρ1 D (upd' (upd' b (sum + fvs D Q a) _) (sum + fvs D Q x) _) := g4
                rw [upd_lt (by omega)] at g4
                exact g4
              · rw [if_neg z]
                have g4 : BS ρ1 D (upd' (upd' b (sum + fvs D Q a) _) (sum + fvs D Q x) _) := g4
                rw [upd_ge (by omega)] at g4
                exact g4
          rw [m_to h hst hx' hxs, bq_s]
          simp (disch := first | (with_reducible assumption) | omega | exact ⟨by omega, by omega⟩ | ((with_reducible first | apply Wf.wI | apply Wf.wL | apply Wf.fL | apply Wf.fI | apply Wf.fr); (repeat (with_reducible first | assumption | apply Wf.wI | apply Wf.wL | apply Wf.fL | apply Wf.fI | apply Wf.fr)))) only [ck_225, gI_225, gL_225, pI_225, pZ0_225, pZ1_225, pL_225, gR_225_1, gR_225_3, gR_225_4, gR_225_5, gR_225_6, gR_225_7, gR_225_8, gR_225_9, gR_225_10, gR_225_11, gR_225_12, gR_225_13, gR_225_14, gR_225_15, gR_225_16, gR_225_17, gR_225_18, gR_225_19, gR_225_20, gR_225_21, gR_225_35, gR_225_36, gR_225_38, gR_225_39, gR_225_40, gR_225_41, gR_225_43, gR_225_44, gR_225_45, gR_225_48, gR_225_49, gR_225_50, gR_225_51, gR_225_53, gR_225_54, gR_225_55, gR_225_56, gR_225_58, gR_225_59, gR_225_60, gR_225_61, gR_225_62, gR_225_63, gR_225_66, gR_225_67, bq_s, bd_s, mp_s, rz_0, rz_1, bI_rz, zadd, zmul, zsub, le_nI, lt_nI, eq_nI, neg_nI, gen_nI, neg_lt, neg_le, neg_lt', neg_le', nI_lt0, aI_227, hrv]
          by_cases q2 : oth D s x = riv D
          · rw [if_pos q2]
            exact go ⟨q1', _, hnx, by rw [q2]; exact hG.2.1⟩
          rw [if_neg q2, m_to h hst hx' hxs, bq_s]
          simp only [z_bit (show B < 2147483648 by omega) (show oth D s x < 31 by omega), ite_n, zadd]
          by_cases q3 : B.testBit (oth D s x) = true
          · rw [if_pos q3]
            exact go ⟨q1', _, hnx, ((hB.2 _).mp q3).1⟩
          · rw [if_neg q3]
            refine skip (fun z => ?_)
            obtain ⟨y, hy, hqy⟩ := z.2
            rw [hnx] at hy
            cases hy
            exact q3 ((hB.2 _).mpr ⟨hqy, q2⟩)
    have h := h0.q (hfr.mono Xy_q)
    have hw := h.w
    show ∃ ρ, b_X12_orders (f_or d) _ _ _ _ _ = _ ∧ _
    unfold b_X12_orders f_X12_orders_0
    simp only [to_bq, l_0, l_1, l_2, l_3, l_4, l_5, l_6, l_7, l_8, l_9, l_10, l_11, l_12, l_13, l_14, l_15, l_16, l_17, l_18, l_19, l_20, l_21, l_22, l_23, l_24, l_25, l_26, l_27, l_28, l_29, l_30, l_31, l_32, l_40, l_41, l_42, l_43, l_44, l_45, l_46, l_47, l_48, l_49, l_50, l_51, l_52, l_53, l_54, l_55, l_56, l_57, l_58, l_59, l_60, l_61, l_62, l_63, l_64, l_72, l_97, l_99, l_100, l_104, l_120, l_122, l_128, l_140, l_255, l_256, l_257, l_258, l_260, l_261, l_262, l_364, l_680, l_700, l_701, l_840, l_999, l_1023, l_1024, l_9999, l_10000, l_1000000, lm]
    simp (disch := first | (with_reducible assumption) | omega | exact ⟨by omega, by omega⟩ | ((with_reducible first | apply Wf.wI | apply Wf.wL | apply Wf.fL | apply Wf.fI | apply Wf.fr); (repeat (with_reducible first | assumption | apply Wf.wI | apply Wf.wL | apply Wf.fL | apply Wf.fI | apply Wf.fr)))) only [ck_225, gI_225, gL_225, pI_225, pZ0_225, pZ1_225, pL_225, gR_225_1, gR_225_3, gR_225_4, gR_225_5, gR_225_6, gR_225_7, gR_225_8, gR_225_9, gR_225_10, gR_225_11, gR_225_12, gR_225_13, gR_225_14, gR_225_15, gR_225_16, gR_225_17, gR_225_18, gR_225_19, gR_225_20, gR_225_21, gR_225_35, gR_225_36, gR_225_38, gR_225_39, gR_225_40, gR_225_41, gR_225_43, gR_225_44, gR_225_45, gR_225_48, gR_225_49, gR_225_50, gR_225_51, gR_225_53, gR_225_54, gR_225_55, gR_225_56, gR_225_58, gR_225_59, gR_225_60, gR_225_61, gR_225_62, gR_225_63, gR_225_66, gR_225_67, bq_s, bd_s, mp_s, rz_0, rz_1, bI_rz, zadd, zmul, zsub, le_nI, lt_nI, eq_nI, neg_nI, gen_nI, neg_lt, neg_le, neg_lt', neg_le', nI_lt0, aI_227, rd_C h, if_true, if_false, ite_true, ite_false, reduceIte, not_true, not_false, and_true, true_and, and_false, false_and, or_true, true_or, or_false, false_or, eq_self, show (k = nC D - 1) = False from eq_false (by omega)]
    exact loop (nC D) 0 5000 τ (by omega) (by omega) hfr hp hb
end
