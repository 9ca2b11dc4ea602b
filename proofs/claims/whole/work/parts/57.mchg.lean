/-! The reference's changes -/
theorem D_cg {D : DD} {a a' j j' : Nat} (h1 : a = a') (h2 : j = j') : D a j = D a' j' := by rw [h1, h2]
section
variable {σ : ah_H} {D : DD}
def Xkn (a j : Nat) : Prop := a = 225 ∧ j = 52 ∨ 255 ≤ a ∧ a ≤ 258
theorem MB.keep (h : MB D) : MB (dKeep D) := by
  have hT := dKeep_t D
  refine ⟨hT.mt h.1, dKeep_n h.2.1, ?_, ?_⟩
  · rw [dKeep_o D (by omega)]; exact h.2.2.1
  · rw [hT 226 (by omega) (by omega)]; exact h.2.2.2
theorem m_keepNow (h : MInv σ D) : ∃ ρ, f_X12_keepNow 225 σ = some ρ ∧ Fr Xkn σ ρ ∧ MInv ρ (dKeep D) := by
  have hw := h.w
  have h20 := h.n.qk20
  have hkm := rd_km h
  have hat := fun {a j : Nat} (p : PM a j) => h.at p
  unfold f_X12_keepNow f_X12_keepNow_0
  simp only [to_bq, l_0, l_1, l_2, l_3, l_4, l_5, l_6, l_7, l_8, l_9, l_10, l_11, l_12, l_13, l_14, l_15, l_16, l_17, l_18, l_19, l_20, l_21, l_22, l_23, l_24, l_25, l_26, l_27, l_28, l_29, l_30, l_31, l_32, l_40, l_41, l_42, l_43, l_44, l_45, l_46, l_47, l_48, l_49, l_50, l_51, l_52, l_53, l_54, l_55, l_56, l_57, l_58, l_59, l_60, l_61, l_62, l_63, l_64, l_72, l_97, l_99, l_100, l_104, l_120, l_122, l_128, l_140, l_255, l_256, l_257, l_258, l_260, l_261, l_262, l_364, l_680, l_700, l_701, l_840, l_999, l_1023, l_1024, l_9999, l_10000, l_1000000, lm]
  rw [ck_225 hw, gI_225 (j := 52) hw, bq_s, hkm]
  by_cases q : km D = 20
  · rw [if_pos (by rw [q]), lp_shift 133 7 5000 σ (by omega) (by omega) (by omega) hw hkm]
    unfold f_X12_keepNow_85 f_X12_keepNow_95
    simp only [to_bq, l_0, l_1, l_2, l_3, l_4, l_5, l_6, l_7, l_8, l_9, l_10, l_11, l_12, l_13, l_14, l_15, l_16, l_17, l_18, l_19, l_20, l_21, l_22, l_23, l_24, l_25, l_26, l_27, l_28, l_29, l_30, l_31, l_32, l_40, l_41, l_42, l_43, l_44, l_45, l_46, l_47, l_48, l_49, l_50, l_51, l_52, l_53, l_54, l_55, l_56, l_57, l_58, l_59, l_60, l_61, l_62, l_63, l_64, l_72, l_97, l_99, l_100, l_104, l_120, l_122, l_128, l_140, l_255, l_256, l_257, l_258, l_260, l_261, l_262, l_364, l_680, l_700, l_701, l_840, l_999, l_1023, l_1024, l_9999, l_10000, l_1000000, lm]
    have w1 : Wf (ah_mI σ (fun a j => if 255 ≤ a ∧ a ≤ 258 ∧ 7 ≤ j + 7 ∧ j + 7 < 140 then ah_I σ a (j + 7) else ah_I σ a j)) := hw
    have m1 : ah_I (ah_mI σ (fun a j => if 255 ≤ a ∧ a ≤ 258 ∧ 7 ≤ j + 7 ∧ j + 7 < 140 then ah_I σ a (j + 7) else ah_I σ a j)) 225 52 = nI 20 := by
      rw [I_mI, if_neg (by omega), hkm, q]
    rw [gI_225 (j := 52) w1, bq_s, m1, pI_225 w1, bq_s, zsub (by omega), lp_keep (n := 19) (by omega) 7 0 5000 _ (by omega) (by omega) (by omega) (w1.wI _ _ _) rI_eq]
    have e189 : ∀ τ : ah_H, Wf τ → ah_I τ 225 52 = nI 19 → f_X12_keepNow_189 225 τ = some (ah_wI τ 225 52 (nI 20)) := by
      intro τ z1 z2
      unfold f_X12_keepNow_189
      simp only [to_bq, l_0, l_1, l_2, l_3, l_4, l_5, l_6, l_7, l_8, l_9, l_10, l_11, l_12, l_13, l_14, l_15, l_16, l_17, l_18, l_19, l_20, l_21, l_22, l_23, l_24, l_25, l_26, l_27, l_28, l_29, l_30, l_31, l_32, l_40, l_41, l_42, l_43, l_44, l_45, l_46, l_47, l_48, l_49, l_50, l_51, l_52, l_53, l_54, l_55, l_56, l_57, l_58, l_59, l_60, l_61, l_62, l_63, l_64, l_72, l_97, l_99, l_100, l_104, l_120, l_122, l_128, l_140, l_255, l_256, l_257, l_258, l_260, l_261, l_262, l_364, l_680, l_700, l_701, l_840, l_999, l_1023, l_1024, l_9999, l_10000, l_1000000, lm]
      rw [gI_225 (j := 52) z1, bq_s, z2, pI_225 z1, bq_s, zadd]
    rw [e189 _ (by exact hw) (by rw [I_mI, if_neg (by omega)]; exact rI_eq)]
    refine ⟨_, rfl, ⟨fun a j n => ⟨?_, rfl⟩, fun _ _ _ => rfl, rfl⟩, ⟨hw, h.2.1.keep, fun a j p => ?_⟩⟩
    · unfold Xkn at n
      simp only [ah_I_wI, I_mI, if_true, if_false, ite_true, ite_false, reduceIte, not_true, not_false, and_true, true_and, and_false, false_and, or_true, true_or, or_false, false_or, eq_self]
      (repeat' split) <;> first | rfl | (exfalso; omega)
    · unfold dKeep
      simp only [ah_I_wI, I_mI, if_true, if_false, ite_true, ite_false, reduceIte, not_true, not_false, and_true, true_and, and_false, false_and, or_true, true_or, or_false, false_or, eq_self]
      (repeat' split) <;> first | (exfalso; omega) | rfl | exact h.at p | exact (h.at (by unfold PM; omega)).trans (D_cg (by omega) (by omega))
  · rw [if_neg (by rw [eq_nI (by omega) (by omega)]; exact q)]
    unfold f_X12_keepNow_95
    simp only [to_bq, l_0, l_1, l_2, l_3, l_4, l_5, l_6, l_7, l_8, l_9, l_10, l_11, l_12, l_13, l_14, l_15, l_16, l_17, l_18, l_19, l_20, l_21, l_22, l_23, l_24, l_25, l_26, l_27, l_28, l_29, l_30, l_31, l_32, l_40, l_41, l_42, l_43, l_44, l_45, l_46, l_47, l_48, l_49, l_50, l_51, l_52, l_53, l_54, l_55, l_56, l_57, l_58, l_59, l_60, l_61, l_62, l_63, l_64, l_72, l_97, l_99, l_100, l_104, l_120, l_122, l_128, l_140, l_255, l_256, l_257, l_258, l_260, l_261, l_262, l_364, l_680, l_700, l_701, l_840, l_999, l_1023, l_1024, l_9999, l_10000, l_1000000, lm]
    rw [lp_keep (n := km D) (by omega) 7 0 5000 σ (by omega) (by omega) (by omega) hw hkm]
    unfold f_X12_keepNow_189
    simp only [to_bq, l_0, l_1, l_2, l_3, l_4, l_5, l_6, l_7, l_8, l_9, l_10, l_11, l_12, l_13, l_14, l_15, l_16, l_17, l_18, l_19, l_20, l_21, l_22, l_23, l_24, l_25, l_26, l_27, l_28, l_29, l_30, l_31, l_32, l_40, l_41, l_42, l_43, l_44, l_45, l_46, l_47, l_48, l_49, l_50, l_51, l_52, l_53, l_54, l_55, l_56, l_57, l_58, l_59, l_60, l_61, l_62, l_63, l_64, l_72, l_97, l_99, l_100, l_104, l_120, l_122, l_128, l_140, l_255, l_256, l_257, l_258, l_260, l_261, l_262, l_364, l_680, l_700, l_701, l_840, l_999, l_1023, l_1024, l_9999, l_10000, l_1000000, lm]
    have m1 : ah_I (ah_mI σ (fun a j => if 255 ≤ a ∧ a ≤ 258 ∧ 7 * km D + 0 ≤ j ∧ j < 7 * km D + 7 then ah_I σ (a - 7) (j - 7 * km D) else ah_I σ a j)) 225 52 = nI (km D) := by
      rw [I_mI, if_neg (by omega), hkm]
    rw [gI_225 (j := 52) (by exact hw), bq_s, m1, pI_225 (by exact hw), bq_s, zadd]
    refine ⟨_, rfl, ⟨fun a j n => ⟨?_, rfl⟩, fun _ _ _ => rfl, rfl⟩, ⟨hw, h.2.1.keep, fun a j p => ?_⟩⟩
    · unfold Xkn at n
      simp only [ah_I_wI, I_mI, if_true, if_false, ite_true, ite_false, reduceIte, not_true, not_false, and_true, true_and, and_false, false_and, or_true, true_or, or_false, false_or, eq_self]
      (repeat' split) <;> first | rfl | (exfalso; omega)
    · unfold dKeep
      simp only [ah_I_wI, I_mI, if_true, if_false, ite_true, ite_false, reduceIte, not_true, not_false, and_true, true_and, and_false, false_and, or_true, true_or, or_false, false_or, eq_self]
      (repeat' split) <;> first | (exfalso; omega) | rfl | exact h.at p | exact (h.at (by unfold PM; omega)).trans (D_cg (by omega) (by omega))
/-- a pipe laid, or taken up -/
def dLay (D : DD) (c : Nat) (s p a b : Int32) : DD := fun x j => if x = 248 ∧ j = c then s else if x = 249 ∧ j = c then p else if x = 250 ∧ j = c then a else if x = 251 ∧ j = c then b else D x j
theorem dLay_t (c : Nat) (s p a b : Int32) : SameT (dLay D c s p a b) D := by
  intro x h1 h2; funext j; unfold dLay; rw [if_neg (by omega), if_neg (by omega), if_neg (by omega), if_neg (by omega)]
theorem dLay_o {c : Nat} {s p a b : Int32} {x j : Nat} (h : x < 248 ∨ 251 < x) : dLay D c s p a b x j = D x j := by
  unfold dLay; rw [if_neg (by omega), if_neg (by omega), if_neg (by omega), if_neg (by omega)]
theorem dLay_n (h : MN D) {c : Nat} {s p a b : Int32} (hc : s = mI 1 ∨ (c < nC D ∧ D 227 4 ≠ nI c ∧ (∃ s', s' < nS D ∧ s = nI s' ∧ (sA D s' = c ∨ sB D s' = c)) ∧ (∃ p', p' < nP D ∧ p = nI p') ∧ (∃ q, q ≤ 12 ∧ a = nI q) ∧ (∃ q, q ≤ 12 ∧ b = nI q))) : MN (dLay D c s p a b) := by
  have hT := dLay_t (D := D) c s p a b
  have o : ∀ x, x < 248 ∨ 251 < x → dLay D c s p a b x = D x := fun x hx => funext fun j => dLay_o hx
  obtain ⟨h1, h2, h3, h4, h5⟩ := h
  refine ⟨?_, ?_, ?_, ?_, ?_⟩
  · refine hT.net (fun e he => ?_)
    by_cases q : e = c
    · subst q
      have e1 : dLay D e s p a b 248 e = s := by unfold dLay; rw [if_pos ⟨rfl, rfl⟩]
      have e2 : dLay D e s p a b 249 e = p := by unfold dLay; rw [if_neg (by omega), if_pos ⟨rfl, rfl⟩]
      have e3 : dLay D e s p a b 250 e = a := by unfold dLay; rw [if_neg (by omega), if_neg (by omega), if_pos ⟨rfl, rfl⟩]
      have e4 : dLay D e s p a b 251 e = b := by unfold dLay; rw [if_neg (by omega), if_neg (by omega), if_neg (by omega), if_pos ⟨rfl, rfl⟩]
      rw [e1, e2, e3, e4]
      exact hc
    · have e1 : ∀ x, dLay D c s p a b x e = D x e := fun x => by unfold dLay; rw [if_neg (by omega), if_neg (by omega), if_neg (by omega), if_neg (by omega)]
      rw [e1, e1, e1, e1]
      exact h1 e he
  · rw [dLay_o (by omega)]; exact h2
  · unfold km
    rw [dLay_o (by omega), o 255 (by omega), o 256 (by omega), o 257 (by omega), o 258 (by omega)]
    exact fun i hi => hT.net (h3 i hi)
  · rw [dLay_o (by omega)]; exact h4
  · rw [dLay_o (by omega), o 259 (by omega), o 260 (by omega), o 261 (by omega), o 262 (by omega)]
    exact fun q => hT.net (h5 q)
theorem MB.lay (h : MB D) {c : Nat} {s p a b : Int32} (hn : MN (dLay D c s p a b)) : MB (dLay D c s p a b) := by
  have hT := dLay_t (D := D) c s p a b
  refine ⟨hT.mt h.1, hn, ?_, ?_⟩
  · rw [dLay_o (by omega)]; exact h.2.2.1
  · rw [hT 226 (by omega) (by omega)]; exact h.2.2.2
/-- what changes of the net write -/
def Xch (a _j : Nat) : Prop := 225 ≤ a
theorem Xq_ch : ∀ a j, Xq a j → Xch a j := by
  intro a j h; unfold Xq at h; unfold Xch; omega
theorem Xkn_ch : ∀ a j, Xkn a j → Xch a j := by
  intro a j h; unfold Xkn at h; unfold Xch; omega
theorem m_touches (h : MInv σ D) {s c : Nat} (hs : s < nS D) (hc : c < 7) : f_X12_touches 225 (nI s) (nI c) σ = some (bI (sA D s = c ∨ sB D s = c), σ) := by
  have hw := h.w
  have b1 := h.bd
  have hA := h.t.qsAc hs
  have hB := h.t.qsBc hs
  unfold f_X12_touches f_X12_touches_0
  simp only [to_bq, l_0, l_1, l_2, l_3, l_4, l_5, l_6, l_7, l_8, l_9, l_10, l_11, l_12, l_13, l_14, l_15, l_16, l_17, l_18, l_19, l_20, l_21, l_22, l_23, l_24, l_25, l_26, l_27, l_28, l_29, l_30, l_31, l_32, l_40, l_41, l_42, l_43, l_44, l_45, l_46, l_47, l_48, l_49, l_50, l_51, l_52, l_53, l_54, l_55, l_56, l_57, l_58, l_59, l_60, l_61, l_62, l_63, l_64, l_72, l_97, l_99, l_100, l_104, l_120, l_122, l_128, l_140, l_255, l_256, l_257, l_258, l_260, l_261, l_262, l_364, l_680, l_700, l_701, l_840, l_999, l_1023, l_1024, l_9999, l_10000, l_1000000, lm]
  simp (disch := first | (with_reducible assumption) | omega | exact ⟨by omega, by omega⟩ | ((with_reducible first | apply Wf.wI | apply Wf.wL | apply Wf.fL | apply Wf.fI | apply Wf.fr); (repeat (with_reducible first | assumption | apply Wf.wI | apply Wf.wL | apply Wf.fL | apply Wf.fI | apply Wf.fr)))) only [ck_225, gI_225, gL_225, pI_225, pZ0_225, pZ1_225, pL_225, gR_225_1, gR_225_3, gR_225_4, gR_225_5, gR_225_6, gR_225_7, gR_225_8, gR_225_9, gR_225_10, gR_225_11, gR_225_12, gR_225_13, gR_225_14, gR_225_15, gR_225_16, gR_225_17, gR_225_18, gR_225_19, gR_225_20, gR_225_21, gR_225_35, gR_225_36, gR_225_38, gR_225_39, gR_225_40, gR_225_41, gR_225_43, gR_225_44, gR_225_45, gR_225_48, gR_225_49, gR_225_50, gR_225_51, gR_225_53, gR_225_54, gR_225_55, gR_225_56, gR_225_58, gR_225_59, gR_225_60, gR_225_61, gR_225_62, gR_225_63, gR_225_66, gR_225_67, bq_s, bd_s, mp_s, rz_0, rz_1, bI_rz, zadd, zmul, zsub, le_nI, lt_nI, eq_nI, neg_nI, gen_nI, neg_lt, neg_le, neg_lt', neg_le', nI_lt0, aI_232, aI_233, rd_sA h, rd_sB h]
  unfold bI
  by_cases q1 : sA D s = c
  · rw [if_pos q1, if_pos (Or.inl q1)]
  · rw [if_neg q1]
    by_cases q2 : sB D s = c
    · rw [if_pos q2, if_pos (Or.inr q2)]
    · rw [if_neg q2, if_neg (fun r => r.elim q1 q2)]
abbrev okD (x : Int32) : Prop := ¬ x < nI 0 ∧ ¬ nI 12 < x
theorem m_isDeep (x : Int32) : f_X12_isDeep x σ = some (bI (okD x), σ) := by
  unfold f_X12_isDeep f_X12_isDeep_0
  simp only [to_bq, l_0, l_1, l_2, l_3, l_4, l_5, l_6, l_7, l_8, l_9, l_10, l_11, l_12, l_13, l_14, l_15, l_16, l_17, l_18, l_19, l_20, l_21, l_22, l_23, l_24, l_25, l_26, l_27, l_28, l_29, l_30, l_31, l_32, l_40, l_41, l_42, l_43, l_44, l_45, l_46, l_47, l_48, l_49, l_50, l_51, l_52, l_53, l_54, l_55, l_56, l_57, l_58, l_59, l_60, l_61, l_62, l_63, l_64, l_72, l_97, l_99, l_100, l_104, l_120, l_122, l_128, l_140, l_255, l_256, l_257, l_258, l_260, l_261, l_262, l_364, l_680, l_700, l_701, l_840, l_999, l_1023, l_1024, l_9999, l_10000, l_1000000, lm]
  simp only [bq_s, bd_s, mp_s, rz_0, rz_1, bI_rz]
  exact bI_two _ _ _
theorem okD_of {x : Int32} (h : okD x) : ∃ q, q ≤ 12 ∧ x = nI q := by
  obtain ⟨j, hj, e⟩ := le_rng (n := 12) (by omega) h.1 (Int32.not_lt.mp h.2)
  exact ⟨j, by omega, e⟩
/-- may it be laid? -/
def layQ (D : DD) (c s p a b : Int32) : Prop := okC D c ∧ c ≠ D 227 4 ∧ okS D s ∧ (sA D (ix s) = ix c ∨ sB D (ix s) = ix c) ∧ okP D p ∧ okD a ∧ okD b
noncomputable def dLayQ (D : DD) (c s p a b : Int32) : DD := cif (layQ D c s p a b) (dLay (dKeep D) (ix c) s p a b) D
theorem layQ_n (ht : MT D) {c s p a b : Int32} (h : layQ D c s p a b) : ix c < nC D ∧ D 227 4 ≠ nI (ix c) ∧ (∃ s', s' < nS D ∧ s = nI s' ∧ (sA D s' = ix c ∨ sB D s' = ix c)) ∧ (∃ p', p' < nP D ∧ p = nI p') ∧ (∃ q, q ≤ 12 ∧ a = nI q) ∧ (∃ q, q ≤ 12 ∧ b = nI q) := by
  have b1 := ht.qc7
  have b2 := ht.qs10
  obtain ⟨h1, h2, h3, h4, h5, h6, h7⟩ := h
  obtain ⟨k, hk, rfl⟩ := okC_of ht h1
  obtain ⟨s', hs', rfl⟩ := okS_of ht h3
  obtain ⟨p', hp', rfl⟩ := okP_of ht h5
  have e1 : ix (nI k) = k := ix_nI (by omega)
  have e2 : ix (nI s') = s' := ix_nI (by omega)
  rw [e1, e2] at h4
  rw [e1]
  exact ⟨hk, fun z => h2 z.symm, ⟨s', hs', rfl, h4⟩, ⟨p', hp', rfl⟩, okD_of h6, okD_of h7⟩
theorem SameT.r {D' : DD} (e : SameT D' D) : nC D' = nC D ∧ nS D' = nS D ∧ nP D' = nP D ∧ D' 227 4 = D 227 4 ∧ (∀ s, sA D' s = sA D s) ∧ ∀ s, sB D' s = sB D s := by
  have e1 := e 227 (by omega) (by omega)
  have e2 := e 232 (by omega) (by omega)
  have e3 := e 233 (by omega) (by omega)
  unfold nC nS nP sA sB
  rw [e1, e2, e3]
  exact ⟨rfl, rfl, rfl, rfl, fun _ => rfl, fun _ => rfl⟩
theorem MB.layQ (h : MB D) {c s p a b : Int32} (q : layQ D c s p a b) : MB (dLay (dKeep D) (ix c) s p a b) := by
  have hk := h.keep
  obtain ⟨r1, r2, r3, r4, r5, r6⟩ := (dKeep_t D).r
  refine hk.lay (dLay_n hk.2.1 (Or.inr ?_))
  rw [r1, r2, r3, r4]
  simp only [r5, r6]
  exact layQ_n h.1 q
theorem m_lay (h : MInv σ D) (c s p a b : Int32) : Ok (f_X12_lay 225 c s p a b σ) (fun r => r.1 = cI (layQ D c s p a b) ∧ Fr Xch σ r.2 ∧ MInv r.2 (dLayQ D c s p a b)) := by
  have hw := h.w
  have b1 := h.bd
  have f1 : Fr Xq σ (ah_wI σ 225 0 (nI 0)) := Fr.q0 (by omega)
  have h1 := h.q f1
  have hw1 := h1.w
  have no : ¬ layQ D c s p a b → Ok (some (nI 0, ah_wI σ 225 0 (nI 0))) (fun r => r.1 = cI (layQ D c s p a b) ∧ Fr Xch σ r.2 ∧ MInv r.2 (dLayQ D c s p a b)) := fun z => ⟨_, rfl, by rw [cI_f z], f1.mono Xq_ch, by unfold dLayQ; rw [cif_f z]; exact h1⟩
  unfold f_X12_lay f_X12_lay_0
  simp only [to_bq, l_0, l_1, l_2, l_3, l_4, l_5, l_6, l_7, l_8, l_9, l_10, l_11, l_12, l_13, l_14, l_15, l_16, l_17, l_18, l_19, l_20, l_21, l_22, l_23, l_24, l_25, l_26, l_27, l_28, l_29, l_30, l_31, l_32, l_40, l_41, l_42, l_43, l_44, l_45, l_46, l_47, l_48, l_49, l_50, l_51, l_52, l_53, l_54, l_55, l_56, l_57, l_58, l_59, l_60, l_61, l_62, l_63, l_64, l_72, l_97, l_99, l_100, l_104, l_120, l_122, l_128, l_140, l_255, l_256, l_257, l_258, l_260, l_261, l_262, l_364, l_680, l_700, l_701, l_840, l_999, l_1023, l_1024, l_9999, l_10000, l_1000000, lm]
  simp (disch := first | (with_reducible assumption) | omega | exact ⟨by omega, by omega⟩ | ((with_reducible first | apply Wf.wI | apply Wf.wL | apply Wf.fL | apply Wf.fI | apply Wf.fr); (repeat (with_reducible first | assumption | apply Wf.wI | apply Wf.wL | apply Wf.fL | apply Wf.fI | apply Wf.fr)))) only [ck_225, gI_225, gL_225, pI_225, pZ0_225, pZ1_225, pL_225, gR_225_1, gR_225_3, gR_225_4, gR_225_5, gR_225_6, gR_225_7, gR_225_8, gR_225_9, gR_225_10, gR_225_11, gR_225_12, gR_225_13, gR_225_14, gR_225_15, gR_225_16, gR_225_17, gR_225_18, gR_225_19, gR_225_20, gR_225_21, gR_225_35, gR_225_36, gR_225_38, gR_225_39, gR_225_40, gR_225_41, gR_225_43, gR_225_44, gR_225_45, gR_225_48, gR_225_49, gR_225_50, gR_225_51, gR_225_53, gR_225_54, gR_225_55, gR_225_56, gR_225_58, gR_225_59, gR_225_60, gR_225_61, gR_225_62, gR_225_63, gR_225_66, gR_225_67, bq_s, bd_s, mp_s, rz_0, rz_1, bI_rz, m_isCorner h1, bI_0, ite_n]
  by_cases q1 : okC D c
  · rw [if_pos q1]
    obtain ⟨k, hk, rfl⟩ := okC_of h.t q1
    have ek : ix (nI k) = k := ix_nI (by omega)
    simp (disch := first | (with_reducible assumption) | omega | exact ⟨by omega, by omega⟩ | ((with_reducible first | apply Wf.wI | apply Wf.wL | apply Wf.fL | apply Wf.fI | apply Wf.fr); (repeat (with_reducible first | assumption | apply Wf.wI | apply Wf.wL | apply Wf.fL | apply Wf.fI | apply Wf.fr)))) only [ck_225, gI_225, gL_225, pI_225, pZ0_225, pZ1_225, pL_225, gR_225_1, gR_225_3, gR_225_4, gR_225_5, gR_225_6, gR_225_7, gR_225_8, gR_225_9, gR_225_10, gR_225_11, gR_225_12, gR_225_13, gR_225_14, gR_225_15, gR_225_16, gR_225_17, gR_225_18, gR_225_19, gR_225_20, gR_225_21, gR_225_35, gR_225_36, gR_225_38, gR_225_39, gR_225_40, gR_225_41, gR_225_43, gR_225_44, gR_225_45, gR_225_48, gR_225_49, gR_225_50, gR_225_51, gR_225_53, gR_225_54, gR_225_55, gR_225_56, gR_225_58, gR_225_59, gR_225_60, gR_225_61, gR_225_62, gR_225_63, gR_225_66, gR_225_67, bq_s, bd_s, mp_s, rz_0, rz_1, bI_rz, aI_227, rd_riv h1]
    by_cases q2 : nI k = D 227 4
    · rw [if_pos q2]; exact no (fun z => z.2.1 q2)
    rw [if_neg q2]
    simp (disch := first | (with_reducible assumption) | omega | exact ⟨by omega, by omega⟩ | ((with_reducible first | apply Wf.wI | apply Wf.wL | apply Wf.fL | apply Wf.fI | apply Wf.fr); (repeat (with_reducible first | assumption | apply Wf.wI | apply Wf.wL | apply Wf.fL | apply Wf.fI | apply Wf.fr)))) only [bq_s, bd_s, mp_s, rz_0, rz_1, bI_rz, m_isStreet h1, bI_0, ite_n]
    by_cases q3 : okS D s
    · rw [if_pos q3]
      obtain ⟨e, he, rfl⟩ := okS_of h.t q3
      have ee : ix (nI e) = e := ix_nI (by omega)
      simp (disch := first | (with_reducible assumption) | omega | exact ⟨by omega, by omega⟩ | ((with_reducible first | apply Wf.wI | apply Wf.wL | apply Wf.fL | apply Wf.fI | apply Wf.fr); (repeat (with_reducible first | assumption | apply Wf.wI | apply Wf.wL | apply Wf.fL | apply Wf.fI | apply Wf.fr)))) only [bq_s, bd_s, mp_s, rz_0, rz_1, bI_rz, m_touches h1 he (show k < 7 by omega), bI_0, ite_n]
      by_cases q4 : sA D e = k ∨ sB D e = k
      · rw [if_pos q4]
        by_cases q5 : p < nI 0
        · rw [if_pos q5]; exact no (fun z => z.2.2.2.2.1.1 q5)
        rw [if_neg q5]
        simp (disch := first | (with_reducible assumption) | omega | exact ⟨by omega, by omega⟩ | ((with_reducible first | apply Wf.wI | apply Wf.wL | apply Wf.fL | apply Wf.fI | apply Wf.fr); (repeat (with_reducible first | assumption | apply Wf.wI | apply Wf.wL | apply Wf.fL | apply Wf.fI | apply Wf.fr)))) only [ck_225, gI_225, gL_225, pI_225, pZ0_225, pZ1_225, pL_225, gR_225_1, gR_225_3, gR_225_4, gR_225_5, gR_225_6, gR_225_7, gR_225_8, gR_225_9, gR_225_10, gR_225_11, gR_225_12, gR_225_13, gR_225_14, gR_225_15, gR_225_16, gR_225_17, gR_225_18, gR_225_19, gR_225_20, gR_225_21, gR_225_35, gR_225_36, gR_225_38, gR_225_39, gR_225_40, gR_225_41, gR_225_43, gR_225_44, gR_225_45, gR_225_48, gR_225_49, gR_225_50, gR_225_51, gR_225_53, gR_225_54, gR_225_55, gR_225_56, gR_225_58, gR_225_59, gR_225_60, gR_225_61, gR_225_62, gR_225_63, gR_225_66, gR_225_67, bq_s, bd_s, mp_s, rz_0, rz_1, bI_rz, aI_227, rd_P h1]
        by_cases q6 : nI (nP D) ≤ p
        · rw [if_pos q6]; exact no (fun z => z.2.2.2.2.1.2 q6)
        rw [if_neg q6]
        simp (disch := first | (with_reducible assumption) | omega | exact ⟨by omega, by omega⟩ | ((with_reducible first | apply Wf.wI | apply Wf.wL | apply Wf.fL | apply Wf.fI | apply Wf.fr); (repeat (with_reducible first | assumption | apply Wf.wI | apply Wf.wL | apply Wf.fL | apply Wf.fI | apply Wf.fr)))) only [bq_s, bd_s, mp_s, rz_0, rz_1, bI_rz, m_isDeep, bI_0, ite_n]
        by_cases q7 : okD a
        · rw [if_pos q7]
          by_cases q8 : okD b
          · rw [if_pos q8]
            have hq : layQ D (nI k) (nI e) p a b := ⟨q1, q2, q3, by rw [ek, ee]; exact q4, ⟨q5, q6⟩, q7, q8⟩
            obtain ⟨ρ, g1, g2, g3⟩ := m_keepNow h1
            have hw3 := g3.w
            have k14 : k < 14 := by omega
            rw [g1, bq_s]
            simp (disch := first | (with_reducible assumption) | omega | exact ⟨by omega, by omega⟩ | ((with_reducible first | apply Wf.wI | apply Wf.wL | apply Wf.fL | apply Wf.fI | apply Wf.fr); (repeat (with_reducible first | assumption | apply Wf.wI | apply Wf.wL | apply Wf.fL | apply Wf.fI | apply Wf.fr)))) only [ck_225, gI_225, gL_225, pI_225, pZ0_225, pZ1_225, pL_225, gR_225_1, gR_225_3, gR_225_4, gR_225_5, gR_225_6, gR_225_7, gR_225_8, gR_225_9, gR_225_10, gR_225_11, gR_225_12, gR_225_13, gR_225_14, gR_225_15, gR_225_16, gR_225_17, gR_225_18, gR_225_19, gR_225_20, gR_225_21, gR_225_35, gR_225_36, gR_225_38, gR_225_39, gR_225_40, gR_225_41, gR_225_43, gR_225_44, gR_225_45, gR_225_48, gR_225_49, gR_225_50, gR_225_51, gR_225_53, gR_225_54, gR_225_55, gR_225_56, gR_225_58, gR_225_59, gR_225_60, gR_225_61, gR_225_62, gR_225_63, gR_225_66, gR_225_67, bq_s, bd_s, mp_s, rz_0, rz_1, bI_rz, sI_248, sI_249, sI_250, sI_251]
            refine ⟨_, rfl, by rw [cI_t hq], (f1.mono Xq_ch).trans (((((g2.mono Xkn_ch).wI (by unfold Xch; omega)).wI (by unfold Xch; omega)).wI (by unfold Xch; omega)).wI (by unfold Xch; omega)), ?_⟩
            unfold dLayQ
            rw [cif_t hq]
            refine ⟨hw3, h.2.1.layQ hq, fun x j pm => ?_⟩
            rw [ek]
            unfold dLay
            simp only [ah_I_wI]
            (repeat' split) <;> first | (exfalso; omega) | rfl | exact g3.at pm
          · rw [if_neg q8]; exact no (fun z => q8 z.2.2.2.2.2.2)
        · rw [if_neg q7]; exact no (fun z => q7 z.2.2.2.2.2.1)
      · rw [if_neg q4]; exact no (fun z => q4 (by have := z.2.2.2.1; rw [ek, ee] at this; exact this))
    · rw [if_neg q3]; exact no (fun z => q3 z.2.2.1)
  · rw [if_neg q1]; exact no (fun z => q1 z.1)
noncomputable def dTakeQ (D : DD) (c : Int32) : DD := if laidQ D c then dLay (dKeep D) (ix c) (mI 1) (dKeep D 249 (ix c)) (dKeep D 250 (ix c)) (dKeep D 251 (ix c)) else D
theorem MB.takeQ (h : MB D) (c : Nat) : MB (dLay (dKeep D) c (mI 1) (dKeep D 249 c) (dKeep D 250 c) (dKeep D 251 c)) := h.keep.lay (dLay_n h.keep.2.1 (Or.inl rfl))
theorem m_take (h : MInv σ D) (c : Int32) : Ok (f_X12_take 225 c σ) (fun r => r.1 = bI (laidQ D c) ∧ Fr Xch σ r.2 ∧ MInv r.2 (dTakeQ D c)) := by
  have hw := h.w
  have b1 := h.bd
  have f2 : Fr Xq σ (ah_wI (ah_wI σ 225 0 (nI 0)) 225 42 (nI 0)) := (Fr.q0 (by omega)).trans (Fr.q0 (by omega))
  have h2 := h.q f2
  have no : ¬ laidQ D c → Ok (some (nI 0, ah_wI (ah_wI σ 225 0 (nI 0)) 225 42 (nI 0))) (fun r => r.1 = bI (laidQ D c) ∧ Fr Xch σ r.2 ∧ MInv r.2 (dTakeQ D c)) := fun z => ⟨_, rfl, by unfold bI; rw [if_neg z], f2.mono Xq_ch, by unfold dTakeQ; rw [if_neg z]; exact h2⟩
  unfold f_X12_take f_X12_take_0
  simp only [to_bq, l_0, l_1, l_2, l_3, l_4, l_5, l_6, l_7, l_8, l_9, l_10, l_11, l_12, l_13, l_14, l_15, l_16, l_17, l_18, l_19, l_20, l_21, l_22, l_23, l_24, l_25, l_26, l_27, l_28, l_29, l_30, l_31, l_32, l_40, l_41, l_42, l_43, l_44, l_45, l_46, l_47, l_48, l_49, l_50, l_51, l_52, l_53, l_54, l_55, l_56, l_57, l_58, l_59, l_60, l_61, l_62, l_63, l_64, l_72, l_97, l_99, l_100, l_104, l_120, l_122, l_128, l_140, l_255, l_256, l_257, l_258, l_260, l_261, l_262, l_364, l_680, l_700, l_701, l_840, l_999, l_1023, l_1024, l_9999, l_10000, l_1000000, lm]
  simp (disch := first | (with_reducible assumption) | omega | exact ⟨by omega, by omega⟩ | ((with_reducible first | apply Wf.wI | apply Wf.wL | apply Wf.fL | apply Wf.fI | apply Wf.fr); (repeat (with_reducible first | assumption | apply Wf.wI | apply Wf.wL | apply Wf.fL | apply Wf.fI | apply Wf.fr)))) only [ck_225, gI_225, gL_225, pI_225, pZ0_225, pZ1_225, pL_225, gR_225_1, gR_225_3, gR_225_4, gR_225_5, gR_225_6, gR_225_7, gR_225_8, gR_225_9, gR_225_10, gR_225_11, gR_225_12, gR_225_13, gR_225_14, gR_225_15, gR_225_16, gR_225_17, gR_225_18, gR_225_19, gR_225_20, gR_225_21, gR_225_35, gR_225_36, gR_225_38, gR_225_39, gR_225_40, gR_225_41, gR_225_43, gR_225_44, gR_225_45, gR_225_48, gR_225_49, gR_225_50, gR_225_51, gR_225_53, gR_225_54, gR_225_55, gR_225_56, gR_225_58, gR_225_59, gR_225_60, gR_225_61, gR_225_62, gR_225_63, gR_225_66, gR_225_67, bq_s, bd_s, mp_s, rz_0, rz_1, bI_rz, m_isCorner h2, bI_0, ite_n]
  by_cases q1 : okC D c
  · rw [if_pos q1]
    obtain ⟨k, hk, rfl⟩ := okC_of h.t q1
    have ek : ix (nI k) = k := ix_nI (by omega)
    simp (disch := first | (with_reducible assumption) | omega | exact ⟨by omega, by omega⟩ | ((with_reducible first | apply Wf.wI | apply Wf.wL | apply Wf.fL | apply Wf.fI | apply Wf.fr); (repeat (with_reducible first | assumption | apply Wf.wI | apply Wf.wL | apply Wf.fL | apply Wf.fI | apply Wf.fr)))) only [bq_s, bd_s, mp_s, rz_0, rz_1, bI_rz, m_isLaid h2 (h2.st0 rI_eq) hk, bI_0, ite_n]
    by_cases q2 : stD D k = none
    · rw [if_pos q2]; exact no (fun z => (laidQ_n h.t hk).mp z q2)
    · rw [if_neg q2]
      have hq : laidQ D (nI k) := (laidQ_n h.t hk).mpr q2
      obtain ⟨ρ, g1, g2, g3⟩ := m_keepNow h2
      have hw3 := g3.w
      have k14 : k < 14 := by omega
      rw [g1, bq_s]
      simp (disch := first | (with_reducible assumption) | omega | exact ⟨by omega, by omega⟩ | ((with_reducible first | apply Wf.wI | apply Wf.wL | apply Wf.fL | apply Wf.fI | apply Wf.fr); (repeat (with_reducible first | assumption | apply Wf.wI | apply Wf.wL | apply Wf.fL | apply Wf.fI | apply Wf.fr)))) only [ck_225, gI_225, gL_225, pI_225, pZ0_225, pZ1_225, pL_225, gR_225_1, gR_225_3, gR_225_4, gR_225_5, gR_225_6, gR_225_7, gR_225_8, gR_225_9, gR_225_10, gR_225_11, gR_225_12, gR_225_13, gR_225_14, gR_225_15, gR_225_16, gR_225_17, gR_225_18, gR_225_19, gR_225_20, gR_225_21, gR_225_35, gR_225_36, gR_225_38, gR_225_39, gR_225_40, gR_225_41, gR_225_43, gR_225_44, gR_225_45, gR_225_48, gR_225_49, gR_225_50, gR_225_51, gR_225_53, gR_225_54, gR_225_55, gR_225_56, gR_225_58, gR_225_59, gR_225_60, gR_225_61, gR_225_62, gR_225_63, gR_225_66, gR_225_67, bq_s, bd_s, mp_s, rz_0, rz_1, bI_rz, sI_248, lm]
      refine ⟨_, rfl, by unfold bI; rw [if_pos hq], (f2.mono Xq_ch).trans ((g2.mono Xkn_ch).wI (by unfold Xch; omega)), ?_⟩
      unfold dTakeQ
      rw [if_pos hq, ek]
      refine ⟨hw3, h.2.1.takeQ k, fun x j pm => ?_⟩
      have := g3.at pm
      unfold dLay
      simp only [ah_I_wI]
      (repeat' split) <;> first | (exfalso; omega) | rfl | exact this | exact this.trans (D_cg (by omega) (by omega))
  · rw [if_neg q1]; exact no (fun z => q1 z.1)
end
