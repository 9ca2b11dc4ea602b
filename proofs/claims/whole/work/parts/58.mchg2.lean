/-! The reference's changes, second part -/
section
variable {σ : ah_H} {D : DD}
def dUndo (D : DD) : DD := fun x j => if x = 225 ∧ j = 52 then nI (km D - 1) else if 248 ≤ x ∧ x ≤ 251 ∧ j < 7 then D (x + 7) (7 * (km D - 1) + j) else D x j
theorem dUndo_t : SameT (dUndo D) D := by
  intro x h1 h2; funext j; unfold dUndo; rw [if_neg (by omega), if_neg (by omega)]
theorem MB.undo (h : MB D) (hk : km D ≠ 0) : MB (dUndo D) := by
  have hT := dUndo_t (D := D)
  have h20 := h.2.1.qk20
  have o : ∀ x, (x < 248 ∧ x ≠ 225) ∨ 251 < x → dUndo D x = D x := fun x hx => funext fun j => by unfold dUndo; rw [if_neg (by omega), if_neg (by omega)]
  have o2 : ∀ j, j ≠ 52 → dUndo D 225 j = D 225 j := fun j hj => by unfold dUndo; rw [if_neg (by omega), if_neg (by omega)]
  have e52 : dUndo D 225 52 = nI (km D - 1) := by unfold dUndo; rw [if_pos ⟨rfl, rfl⟩]
  have ekm : km (dUndo D) = km D - 1 := by show ix (dUndo D 225 52) = _; rw [e52]; exact ix_nI (by omega)
  obtain ⟨h0, ⟨h1, h2, h3, h4, h5⟩, h6, h7⟩ := h
  refine ⟨hT.mt h0, ⟨?_, ?_, ?_, ?_, ?_⟩, ?_, ?_⟩
  · have e : ∀ x c, 248 ≤ x → x ≤ 251 → c < 7 → dUndo D x c = D (x + 7) (7 * (km D - 1) + c) := fun x c z1 z2 z3 => by unfold dUndo; rw [if_neg (by omega), if_pos ⟨z1, z2, z3⟩]
    exact hT.net ((h3 (km D - 1) (by omega)).to (fun c hc => e 248 c (by omega) (by omega) hc) (fun c hc => e 249 c (by omega) (by omega) hc) (fun c hc => e 250 c (by omega) (by omega) hc) (fun c hc => e 251 c (by omega) (by omega) hc))
  · rw [e52]; exact Nn.mk (by omega) (by omega)
  · rw [ekm, o 255 (by omega), o 256 (by omega), o 257 (by omega), o 258 (by omega)]
    exact fun i hi => hT.net (h3 i (by omega))
  · rw [o2 57 (by omega)]; exact h4
  · rw [o2 57 (by omega), o 259 (by omega), o 260 (by omega), o 261 (by omega), o 262 (by omega)]
    exact fun q => hT.net (h5 q)
  · rw [o2 2 (by omega)]; exact h6
  · rw [hT 226 (by omega) (by omega)]; exact h7
noncomputable def dUndoQ (D : DD) : DD := if km D = 0 then D else dUndo D
def sUndo (D : DD) : Int32 := if km D = 0 then mI 1 else nI (km D - 1)
theorem m_undo (h : MInv σ D) : Ok (f_X12_undo 225 σ) (fun r => r.1 = sUndo D ∧ Fr Xch σ r.2 ∧ MInv r.2 (dUndoQ D)) := by
  have hw := h.w
  have h20 := h.n.qk20
  have f1 : Fr Xq σ (ah_wI σ 225 0 (nI 0)) := Fr.q0 (by omega)
  have h1 := h.q f1
  have hw1 := h1.w
  have hkm := rd_km h1
  unfold f_X12_undo f_X12_undo_0 sUndo dUndoQ
  simp only [to_bq, l_0, l_1, l_2, l_3, l_4, l_5, l_6, l_7, l_8, l_9, l_10, l_11, l_12, l_13, l_14, l_15, l_16, l_17, l_18, l_19, l_20, l_21, l_22, l_23, l_24, l_25, l_26, l_27, l_28, l_29, l_30, l_31, l_32, l_40, l_41, l_42, l_43, l_44, l_45, l_46, l_47, l_48, l_49, l_50, l_51, l_52, l_53, l_54, l_55, l_56, l_57, l_58, l_59, l_60, l_61, l_62, l_63, l_64, l_72, l_97, l_99, l_100, l_104, l_120, l_122, l_128, l_140, l_255, l_256, l_257, l_258, l_260, l_261, l_262, l_364, l_680, l_700, l_701, l_840, l_999, l_1023, l_1024, l_9999, l_10000, l_1000000, lm]
  rw [ck_225 hw, pI_225 hw, bq_s, gI_225 (j := 52) hw1, bq_s, hkm]
  by_cases q : km D = 0
  · rw [if_pos (by rw [q]), if_pos q, if_pos q]
    exact ⟨_, rfl, rfl, f1.mono Xq_ch, h1⟩
  · rw [if_neg (by rw [eq_nI (by omega) (by omega)]; exact q), if_neg q, if_neg q, bq_s, zsub (by omega), pI_225 hw1, bq_s]
    have hw2 := hw1.wI 225 52 (nI (km D - 1))
    obtain ⟨ρ, g1, g2, g3⟩ := lp_undo (n := km D - 1) (by omega) (ah_wI (ah_wI σ 225 0 (nI 0)) 225 52 (nI (km D - 1))) hw2 rI_eq 7 0 5000 _ (by omega) (by omega) Fr.rfl (fun a j _ _ hj => by omega)
    rw [g1]
    have hw3 := hw2.fr g2
    have e52 : ah_I ρ 225 52 = nI (km D - 1) := (g2.I (by unfold Xu; omega)).trans rI_eq
    unfold f_X12_undo_118
    simp only [to_bq, l_0, l_1, l_2, l_3, l_4, l_5, l_6, l_7, l_8, l_9, l_10, l_11, l_12, l_13, l_14, l_15, l_16, l_17, l_18, l_19, l_20, l_21, l_22, l_23, l_24, l_25, l_26, l_27, l_28, l_29, l_30, l_31, l_32, l_40, l_41, l_42, l_43, l_44, l_45, l_46, l_47, l_48, l_49, l_50, l_51, l_52, l_53, l_54, l_55, l_56, l_57, l_58, l_59, l_60, l_61, l_62, l_63, l_64, l_72, l_97, l_99, l_100, l_104, l_120, l_122, l_128, l_140, l_255, l_256, l_257, l_258, l_260, l_261, l_262, l_364, l_680, l_700, l_701, l_840, l_999, l_1023, l_1024, l_9999, l_10000, l_1000000, lm]
    rw [gI_225 (j := 52) hw3, bq_s, e52]
    refine ⟨_, rfl, rfl, (f1.mono Xq_ch).trans ((Fr.rfl.wI (by unfold Xch; omega)).trans (g2.mono (fun a j z => by unfold Xu at z; unfold Xch; omega))), ⟨hw3, h.2.1.undo q, fun a j pm => ?_⟩⟩
    unfold dUndo
    by_cases z1 : a = 225 ∧ j = 52
    · rw [if_pos z1, z1.1, z1.2]; exact e52
    rw [if_neg z1]
    by_cases z2 : 248 ≤ a ∧ a ≤ 251 ∧ j < 7
    · rw [if_pos z2, g3 a j z2.1 z2.2.1 z2.2.2, rI_ne (Or.inl (by omega)), rI_ne (Or.inl (by omega))]
      exact h.at (by unfold PM; omega)
    · rw [if_neg z2, g2.I (by unfold Xu; omega), rI_ne (by omega)]
      exact h1.at pm
def dImg (D : DD) : DD := fun x j => if x = 225 ∧ j = 57 then nI 1 else if 259 ≤ x ∧ x ≤ 262 ∧ j < 7 then D (x - 11) j else D x j
theorem dImg_t : SameT (dImg D) D := by
  intro x h1 h2; funext j; unfold dImg; rw [if_neg (by omega), if_neg (by omega)]
theorem MB.img (h : MB D) : MB (dImg D) := by
  have hT := dImg_t (D := D)
  have o : ∀ x, (x < 259 ∧ x ≠ 225) ∨ 262 < x → dImg D x = D x := fun x hx => funext fun j => by unfold dImg; rw [if_neg (by omega), if_neg (by omega)]
  have o2 : ∀ j, j ≠ 57 → dImg D 225 j = D 225 j := fun j hj => by unfold dImg; rw [if_neg (by omega), if_neg (by omega)]
  have e57 : dImg D 225 57 = nI 1 := by unfold dImg; rw [if_pos ⟨rfl, rfl⟩]
  obtain ⟨h0, ⟨h1, h2, h3, h4, h5⟩, h6, h7⟩ := h
  refine ⟨hT.mt h0, ⟨?_, ?_, ?_, ?_, ?_⟩, ?_, ?_⟩
  · rw [o 248 (by omega), o 249 (by omega), o 250 (by omega), o 251 (by omega)]; exact hT.net h1
  · rw [o2 52 (by omega)]; exact h2
  · unfold km
    rw [o2 52 (by omega), o 255 (by omega), o 256 (by omega), o 257 (by omega), o 258 (by omega)]
    exact fun i hi => hT.net (h3 i hi)
  · rw [e57]; exact Or.inr rfl
  · have e : ∀ x c, 259 ≤ x → x ≤ 262 → c < 7 → dImg D x c = D (x - 11) c := fun x c z1 z2 z3 => by unfold dImg; rw [if_neg (by omega), if_pos ⟨z1, z2, z3⟩]
    exact fun _ => hT.net (h1.to (fun c hc => e 259 c (by omega) (by omega) hc) (fun c hc => e 260 c (by omega) (by omega) hc) (fun c hc => e 261 c (by omega) (by omega) hc) (fun c hc => e 262 c (by omega) (by omega) hc))
  · rw [o2 2 (by omega)]; exact h6
  · rw [hT 226 (by omega) (by omega)]; exact h7
def sLaid (D : DD) : Int32 := nI (cnt (stD D) (nC D))
theorem m_keep (h : MInv σ D) : Ok (f_X12_keep 225 σ) (fun r => r.1 = sLaid (dImg D) ∧ Fr Xch σ r.2 ∧ MInv r.2 (dImg D)) := by
  have hw := h.w
  have f1 : Fr Xq σ (ah_wI σ 225 0 (nI 0)) := Fr.q0 (by omega)
  have h1 := h.q f1
  have hw1 := h1.w
  unfold f_X12_keep f_X12_keep_0
  simp only [to_bq, l_0, l_1, l_2, l_3, l_4, l_5, l_6, l_7, l_8, l_9, l_10, l_11, l_12, l_13, l_14, l_15, l_16, l_17, l_18, l_19, l_20, l_21, l_22, l_23, l_24, l_25, l_26, l_27, l_28, l_29, l_30, l_31, l_32, l_40, l_41, l_42, l_43, l_44, l_45, l_46, l_47, l_48, l_49, l_50, l_51, l_52, l_53, l_54, l_55, l_56, l_57, l_58, l_59, l_60, l_61, l_62, l_63, l_64, l_72, l_97, l_99, l_100, l_104, l_120, l_122, l_128, l_140, l_255, l_256, l_257, l_258, l_260, l_261, l_262, l_364, l_680, l_700, l_701, l_840, l_999, l_1023, l_1024, l_9999, l_10000, l_1000000, lm]
  rw [ck_225 hw, pI_225 hw, bq_s, lp_img (n := km D) 7 0 5000 _ (by omega) (by omega) (by omega) hw1 (rd_km h1)]
  unfold f_X12_keep_67
  simp only [to_bq, l_0, l_1, l_2, l_3, l_4, l_5, l_6, l_7, l_8, l_9, l_10, l_11, l_12, l_13, l_14, l_15, l_16, l_17, l_18, l_19, l_20, l_21, l_22, l_23, l_24, l_25, l_26, l_27, l_28, l_29, l_30, l_31, l_32, l_40, l_41, l_42, l_43, l_44, l_45, l_46, l_47, l_48, l_49, l_50, l_51, l_52, l_53, l_54, l_55, l_56, l_57, l_58, l_59, l_60, l_61, l_62, l_63, l_64, l_72, l_97, l_99, l_100, l_104, l_120, l_122, l_128, l_140, l_255, l_256, l_257, l_258, l_260, l_261, l_262, l_364, l_680, l_700, l_701, l_840, l_999, l_1023, l_1024, l_9999, l_10000, l_1000000, lm]
  have hw2 : Wf (ah_mI (ah_wI σ 225 0 (nI 0)) (fun a j => if 259 ≤ a ∧ a ≤ 262 ∧ 0 ≤ j ∧ j < 7 then ah_I (ah_wI σ 225 0 (nI 0)) (a - 11) j else ah_I (ah_wI σ 225 0 (nI 0)) a j)) := hw1
  rw [pZ1_225 hw2, bq_s]
  have h3 : MInv (ah_wI (ah_mI (ah_wI σ 225 0 (nI 0)) (fun a j => if 259 ≤ a ∧ a ≤ 262 ∧ 0 ≤ j ∧ j < 7 then ah_I (ah_wI σ 225 0 (nI 0)) (a - 11) j else ah_I (ah_wI σ 225 0 (nI 0)) a j)) 225 57 (nI 1)) (dImg D) := by
    refine ⟨hw2, h.2.1.img, fun a j pm => ?_⟩
    unfold dImg
    rw [ah_I_wI, I_mI]
    by_cases z1 : a = 225 ∧ j = 57
    · rw [if_pos z1, if_pos z1]
    rw [if_neg z1, if_neg z1]
    by_cases z2 : 259 ≤ a ∧ a ≤ 262 ∧ j < 7
    · rw [if_pos (by omega), if_pos z2]
      exact h1.at (by unfold PM; omega)
    · rw [if_neg (by omega), if_neg z2]
      exact h1.at pm
  rw [m_laidMany h3, bq_s]
  refine ⟨_, rfl, rfl, ?_, h3.q (Fr.q0 (by omega))⟩
  refine ⟨fun a j n => ⟨?_, rfl⟩, fun _ _ _ => rfl, rfl⟩
  unfold Xch at n
  rw [rI_ne (Or.inl (by omega)), rI_ne (Or.inl (by omega)), I_mI, if_neg (by omega), rI_ne (Or.inl (by omega))]
def dBack (D : DD) : DD := fun x j => if x = 225 ∧ j = 52 then nI 0 else if 248 ≤ x ∧ x ≤ 251 ∧ j < 7 then D (x + 11) j else D x j
theorem dBack_t : SameT (dBack D) D := by
  intro x h1 h2; funext j; unfold dBack; rw [if_neg (by omega), if_neg (by omega)]
theorem MB.back (h : MB D) (hi : D 225 57 ≠ nI 0) : MB (dBack D) := by
  have hT := dBack_t (D := D)
  have o : ∀ x, (x < 248 ∧ x ≠ 225) ∨ 251 < x → dBack D x = D x := fun x hx => funext fun j => by unfold dBack; rw [if_neg (by omega), if_neg (by omega)]
  have o2 : ∀ j, j ≠ 52 → dBack D 225 j = D 225 j := fun j hj => by unfold dBack; rw [if_neg (by omega), if_neg (by omega)]
  have e52 : dBack D 225 52 = nI 0 := by unfold dBack; rw [if_pos ⟨rfl, rfl⟩]
  have ekm : km (dBack D) = 0 := by unfold km; rw [e52]; exact ix_nI (by omega)
  obtain ⟨h0, ⟨h1, h2, h3, h4, h5⟩, h6, h7⟩ := h
  have hi1 := h4.resolve_left hi
  refine ⟨hT.mt h0, ⟨?_, ?_, ?_, ?_, ?_⟩, ?_, ?_⟩
  · have e : ∀ x c, 248 ≤ x → x ≤ 251 → c < 7 → dBack D x c = D (x + 11) c := fun x c z1 z2 z3 => by unfold dBack; rw [if_neg (by omega), if_pos ⟨z1, z2, z3⟩]
    exact hT.net ((h5 hi1).to (fun c hc => e 248 c (by omega) (by omega) hc) (fun c hc => e 249 c (by omega) (by omega) hc) (fun c hc => e 250 c (by omega) (by omega) hc) (fun c hc => e 251 c (by omega) (by omega) hc))
  · rw [e52]; exact Nn.mk (by omega) (by omega)
  · rw [ekm]; intro i hi; omega
  · rw [o2 57 (by omega)]; exact h4
  · rw [o2 57 (by omega), o 259 (by omega), o 260 (by omega), o 261 (by omega), o 262 (by omega)]
    exact fun q => hT.net (h5 q)
  · rw [o2 2 (by omega)]; exact h6
  · rw [hT 226 (by omega) (by omega)]; exact h7
noncomputable def dBackQ (D : DD) : DD := if D 225 57 = nI 0 then D else dBack D
def sBack (D : DD) : Int32 := if D 225 57 = nI 0 then mI 1 else sLaid (dBack D)
theorem m_back (h : MInv σ D) : Ok (f_X12_back 225 σ) (fun r => r.1 = sBack D ∧ Fr Xch σ r.2 ∧ MInv r.2 (dBackQ D)) := by
  have hw := h.w
  have f1 : Fr Xq σ (ah_wI σ 225 0 (nI 0)) := Fr.q0 (by omega)
  have h1 := h.q f1
  have hw1 := h1.w
  have h57 : ah_I (ah_wI σ 225 0 (nI 0)) 225 57 = D 225 57 := h1.at (by unfold PM; omega)
  unfold f_X12_back f_X12_back_0 sBack dBackQ
  simp only [to_bq, l_0, l_1, l_2, l_3, l_4, l_5, l_6, l_7, l_8, l_9, l_10, l_11, l_12, l_13, l_14, l_15, l_16, l_17, l_18, l_19, l_20, l_21, l_22, l_23, l_24, l_25, l_26, l_27, l_28, l_29, l_30, l_31, l_32, l_40, l_41, l_42, l_43, l_44, l_45, l_46, l_47, l_48, l_49, l_50, l_51, l_52, l_53, l_54, l_55, l_56, l_57, l_58, l_59, l_60, l_61, l_62, l_63, l_64, l_72, l_97, l_99, l_100, l_104, l_120, l_122, l_128, l_140, l_255, l_256, l_257, l_258, l_260, l_261, l_262, l_364, l_680, l_700, l_701, l_840, l_999, l_1023, l_1024, l_9999, l_10000, l_1000000, lm]
  rw [ck_225 hw, pI_225 hw, bq_s, gI_225 (j := 57) hw1, bq_s, h57]
  by_cases q : D 225 57 = nI 0
  · rw [if_pos q, if_pos q, if_pos q]
    exact ⟨_, rfl, rfl, f1.mono Xq_ch, h1⟩
  · rw [if_neg q, if_neg q, if_neg q, lp_back (n := km D) 7 0 5000 _ (by omega) (by omega) (by omega) hw1 (rd_km h1)]
    unfold f_X12_back_76
    simp only [to_bq, l_0, l_1, l_2, l_3, l_4, l_5, l_6, l_7, l_8, l_9, l_10, l_11, l_12, l_13, l_14, l_15, l_16, l_17, l_18, l_19, l_20, l_21, l_22, l_23, l_24, l_25, l_26, l_27, l_28, l_29, l_30, l_31, l_32, l_40, l_41, l_42, l_43, l_44, l_45, l_46, l_47, l_48, l_49, l_50, l_51, l_52, l_53, l_54, l_55, l_56, l_57, l_58, l_59, l_60, l_61, l_62, l_63, l_64, l_72, l_97, l_99, l_100, l_104, l_120, l_122, l_128, l_140, l_255, l_256, l_257, l_258, l_260, l_261, l_262, l_364, l_680, l_700, l_701, l_840, l_999, l_1023, l_1024, l_9999, l_10000, l_1000000, lm]
    have hw2 : Wf (ah_mI (ah_wI σ 225 0 (nI 0)) (fun a j => if 248 ≤ a ∧ a ≤ 251 ∧ 0 ≤ j ∧ j < 7 then ah_I (ah_wI σ 225 0 (nI 0)) (a + 11) j else ah_I (ah_wI σ 225 0 (nI 0)) a j)) := hw1
    rw [pI_225 hw2, bq_s]
    have h3 : MInv (ah_wI (ah_mI (ah_wI σ 225 0 (nI 0)) (fun a j => if 248 ≤ a ∧ a ≤ 251 ∧ 0 ≤ j ∧ j < 7 then ah_I (ah_wI σ 225 0 (nI 0)) (a + 11) j else ah_I (ah_wI σ 225 0 (nI 0)) a j)) 225 52 (nI 0)) (dBack D) := by
      refine ⟨hw2, h.2.1.back q, fun a j pm => ?_⟩
      unfold dBack
      rw [ah_I_wI, I_mI]
      by_cases z1 : a = 225 ∧ j = 52
      · rw [if_pos z1, if_pos z1]
      rw [if_neg z1, if_neg z1]
      by_cases z2 : 248 ≤ a ∧ a ≤ 251 ∧ j < 7
      · rw [if_pos (by omega), if_pos z2]
        exact h1.at (by unfold PM; omega)
      · rw [if_neg (by omega), if_neg z2]
        exact h1.at pm
    rw [m_laidMany h3, bq_s]
    refine ⟨_, rfl, rfl, ?_, h3.q (Fr.q0 (by omega))⟩
    refine ⟨fun a j n => ⟨?_, rfl⟩, fun _ _ _ => rfl, rfl⟩
    unfold Xch at n
    rw [rI_ne (Or.inl (by omega)), rI_ne (Or.inl (by omega)), I_mI, if_neg (by omega), rI_ne (Or.inl (by omega))]
/-- the bytes fed -/
def fsel (a b c d e : Int32) (k : Nat) : Int32 := if k < 4 then a else if k < 8 then b else if k < 12 then c else if k < 16 then d else e
def fby (a b c d e : Int32) (k : Nat) : Int32 := (fsel a b c d e k >>> ((nI 24 - nI 8 * nI (k % 4)) &&& nI 31)) &&& nI 255
theorem fby_b (a b c d e : Int32) (k : Nat) : Nn (fby a b c d e k) 255 := by
  obtain ⟨j, hj, z⟩ := pk_andE (fsel a b c d e k >>> ((nI 24 - nI 8 * nI (k % 4)) &&& nI 31)) (m := nI 255) 8 (by decide)
  have z : fby a b c d e k = nI j := z
  rw [z]
  exact Nn.mk (by omega) (by omega)
def dFeed (D : DD) (a b c d e : Int32) : DD := fun x j => if x = 225 ∧ j = 2 then nI (tpd D + 20) else if x = 226 ∧ tpd D ≤ j ∧ j < tpd D + 20 then fby a b c d e (j - tpd D) else D x j
theorem MB.qtp (h : MB D) : D 225 2 = nI (tpd D) ∧ tpd D ≤ 700 := h.2.2.1
theorem MB.feed (h : MB D) (hk : tpd D ≤ 680) (a b c d e : Int32) : MB (dFeed D a b c d e) := by
  have o : ∀ x, x ≠ 225 → x ≠ 226 → dFeed D a b c d e x = D x := fun x h1 h2 => funext fun j => by unfold dFeed; rw [if_neg (by omega), if_neg (by omega)]
  have o2 : ∀ j, j ≠ 2 → dFeed D a b c d e 225 j = D 225 j := fun j hj => by unfold dFeed; rw [if_neg (by omega), if_neg (by omega)]
  obtain ⟨h0, ⟨h1, h2, h3, h4, h5⟩, h6, h7⟩ := h
  have net : ∀ {st pi x y : Nat → Int32}, NetOK D st pi x y → NetOK (dFeed D a b c d e) st pi x y := fun z => z.congr (o 227 (by omega) (by omega)) (o 232 (by omega) (by omega)) (o 233 (by omega) (by omega))
  refine ⟨h0.congr (fun x z1 z2 => o x (by omega) (by omega)), ⟨?_, ?_, ?_, ?_, ?_⟩, ?_, ?_⟩
  · rw [o 248 (by omega) (by omega), o 249 (by omega) (by omega), o 250 (by omega) (by omega), o 251 (by omega) (by omega)]; exact net h1
  · rw [o2 52 (by omega)]; exact h2
  · unfold km
    rw [o2 52 (by omega), o 255 (by omega) (by omega), o 256 (by omega) (by omega), o 257 (by omega) (by omega), o 258 (by omega) (by omega)]
    exact fun i hi => net (h3 i hi)
  · rw [o2 57 (by omega)]; exact h4
  · rw [o2 57 (by omega), o 259 (by omega) (by omega), o 260 (by omega) (by omega), o 261 (by omega) (by omega), o 262 (by omega) (by omega)]
    exact fun q => net (h5 q)
  · unfold dFeed; rw [if_pos ⟨rfl, rfl⟩]; exact Nn.mk (by omega) (by omega)
  · intro j hj
    unfold dFeed
    rw [if_neg (by omega)]
    by_cases z : tpd D ≤ j ∧ j < tpd D + 20
    · rw [if_pos ⟨rfl, z⟩]; exact fby_b _ _ _ _ _ _
    · rw [if_neg (fun w => z w.2)]; exact h7 j hj
noncomputable def dFeedQ (D : DD) (a b c d e : Int32) : DD := if tpd D ≤ 680 then dFeed D a b c d e else D
def sFeed (D : DD) : Int32 := if tpd D ≤ 680 then nI (tpd D + 20) else mI 1
theorem m_feed20 {tp : Nat} (htp : tp ≤ 680) (a b c d e : Int32) : ∀ m k fu (τ : ah_H), k + m = 20 → m < fu → Wf τ → ah_I τ 225 2 = nI tp → ∃ ρ, f_X12_feed_20 fu 225 a b c d e (nI k) τ = f_X12_feed_110 225 ρ ∧ Fr (XR 226) τ ρ ∧ ∀ j, ah_I ρ 226 j = if tp + k ≤ j ∧ j < tp + 20 then fby a b c d e (j - tp) else ah_I τ 226 j := by
  intro m
  induction m with
  | zero =>
    intro k fu τ hk hf hw h2
    obtain ⟨fu, rfl⟩ : ∃ q, fu = q + 1 := ⟨fu - 1, by omega⟩
    obtain rfl : k = 20 := by omega
    refine ⟨τ, ?_, Fr.rfl, fun j => by rw [if_neg (by omega)]⟩
    show f_X12_feed_20_b _ _ _ _ _ _ _ _ _ = _
    unfold f_X12_feed_20_b
    rw [show (20 : Int32) = nI 20 from l_20, if_pos (Int32.le_refl _)]
  | succ m ih =>
    intro k fu τ hk hf hw h2
    obtain ⟨fu, rfl⟩ : ∃ q, fu = q + 1 := ⟨fu - 1, by omega⟩
    have go : ∀ v, v = fsel a b c d e k → ∃ ρ, f_X12_feed_73 (f_X12_feed_20 fu) 225 a b c d e (nI k) v τ = f_X12_feed_110 225 ρ ∧ Fr (XR 226) τ ρ ∧ ∀ j, ah_I ρ 226 j = if tp + k ≤ j ∧ j < tp + 20 then fby a b c d e (j - tp) else ah_I τ 226 j := by
      intro v hv
      unfold f_X12_feed_73
      simp only [to_bq, l_0, l_1, l_2, l_3, l_4, l_5, l_6, l_7, l_8, l_9, l_10, l_11, l_12, l_13, l_14, l_15, l_16, l_17, l_18, l_19, l_20, l_21, l_22, l_23, l_24, l_25, l_26, l_27, l_28, l_29, l_30, l_31, l_32, l_40, l_41, l_42, l_43, l_44, l_45, l_46, l_47, l_48, l_49, l_50, l_51, l_52, l_53, l_54, l_55, l_56, l_57, l_58, l_59, l_60, l_61, l_62, l_63, l_64, l_72, l_97, l_99, l_100, l_104, l_120, l_122, l_128, l_140, l_255, l_256, l_257, l_258, l_260, l_261, l_262, l_364, l_680, l_700, l_701, l_840, l_999, l_1023, l_1024, l_9999, l_10000, l_1000000, lm]
      rw [gR_225_1 hw, bq_s, gI_225 (j := 2) hw, bq_s, h2, rem_nI (by omega) (by omega) (by omega), bq_s, zadd tp k, sI_226 hw (by omega), bq_s, zadd k 1, hv]
      have f1 : Fr (XR 226) τ (ah_wI τ 226 (tp + k) (fby a b c d e k)) := Fr.rfl.wI rfl
      obtain ⟨ρ, g1, g2, g3⟩ := ih (k + 1) fu (ah_wI τ 226 (tp + k) (fby a b c d e k)) (by omega) (by omega) (hw.wI _ _ _) (by rw [rI_ne (Or.inl (by omega))]; exact h2)
      refine ⟨ρ, g1, f1.trans g2, fun j => ?_⟩
      rw [g3, ah_I_wI]
      by_cases z : j = tp + k
      · rw [if_neg (by omega), if_pos ⟨rfl, z⟩, if_pos (by omega), show j - tp = k by omega]
      · rw [if_neg (show ¬ (226 = 226 ∧ j = tp + k) from fun w => z w.2)]
        by_cases z2 : tp + (k + 1) ≤ j ∧ j < tp + 20
        · rw [if_pos z2, if_pos (by omega)]
        · rw [if_neg z2, if_neg (by omega)]
    show ∃ ρ, f_X12_feed_20_b _ _ _ _ _ _ _ _ _ = _ ∧ _
    unfold f_X12_feed_20_b
    simp (disch := first | (with_reducible assumption) | omega | exact ⟨by omega, by omega⟩ | ((with_reducible first | apply Wf.wI | apply Wf.wL | apply Wf.fL | apply Wf.fI | apply Wf.fr); (repeat (with_reducible first | assumption | apply Wf.wI | apply Wf.wL | apply Wf.fL | apply Wf.fI | apply Wf.fr)))) only [l_0, l_1, l_2, l_3, l_4, l_5, l_6, l_7, l_8, l_9, l_10, l_11, l_12, l_13, l_14, l_15, l_16, l_17, l_18, l_19, l_20, l_21, l_22, l_23, l_24, l_25, l_26, l_27, l_28, l_29, l_30, l_31, l_32, l_40, l_41, l_42, l_43, l_44, l_45, l_46, l_47, l_48, l_49, l_50, l_51, l_52, l_53, l_54, l_55, l_56, l_57, l_58, l_59, l_60, l_61, l_62, l_63, l_64, l_72, l_97, l_99, l_100, l_104, l_120, l_122, l_128, l_140, l_255, l_256, l_257, l_258, l_260, l_261, l_262, l_364, l_680, l_700, l_701, l_840, l_999, l_1023, l_1024, l_9999, l_10000, l_1000000, lm, zadd, zmul, zsub, le_nI, lt_nI, eq_nI, neg_nI, gen_nI, neg_lt, neg_le, neg_lt', neg_le', nI_lt0]
    rw [if_neg (by omega)]
    unfold fsel at go
    by_cases z1 : 4 ≤ k
    · rw [if_pos z1]
      rw [if_neg (by omega)] at go
      by_cases z2 : 8 ≤ k
      · rw [if_pos z2]
        rw [if_neg (by omega)] at go
        by_cases z3 : 12 ≤ k
        · rw [if_pos z3]
          rw [if_neg (by omega)] at go
          by_cases z4 : 16 ≤ k
          · rw [if_pos z4]
            rw [if_neg (by omega)] at go
            exact go _ rfl
          · rw [if_neg z4]
            rw [if_pos (by omega)] at go
            exact go _ rfl
        · rw [if_neg z3]
          rw [if_pos (by omega)] at go
          exact go _ rfl
      · rw [if_neg z2]
        rw [if_pos (by omega)] at go
        exact go _ rfl
    · rw [if_neg z1]
      rw [if_pos (by omega)] at go
      exact go _ rfl
theorem m_feed (h : MInv σ D) (a b c d e : Int32) : Ok (f_X12_feed 225 a b c d e σ) (fun r => r.1 = sFeed D ∧ Fr Xch σ r.2 ∧ MInv r.2 (dFeedQ D a b c d e)) := by
  have hw := h.w
  have f1 : Fr Xq σ (ah_wI σ 225 0 (nI 0)) := Fr.q0 (by omega)
  have h1 := h.q f1
  have hw1 := h1.w
  obtain ⟨t1, t2⟩ := h.2.1.qtp
  have htp : ah_I (ah_wI σ 225 0 (nI 0)) 225 2 = nI (tpd D) := (h1.at (by unfold PM; omega)).trans t1
  unfold f_X12_feed f_X12_feed_0 sFeed dFeedQ
  simp only [to_bq, l_0, l_1, l_2, l_3, l_4, l_5, l_6, l_7, l_8, l_9, l_10, l_11, l_12, l_13, l_14, l_15, l_16, l_17, l_18, l_19, l_20, l_21, l_22, l_23, l_24, l_25, l_26, l_27, l_28, l_29, l_30, l_31, l_32, l_40, l_41, l_42, l_43, l_44, l_45, l_46, l_47, l_48, l_49, l_50, l_51, l_52, l_53, l_54, l_55, l_56, l_57, l_58, l_59, l_60, l_61, l_62, l_63, l_64, l_72, l_97, l_99, l_100, l_104, l_120, l_122, l_128, l_140, l_255, l_256, l_257, l_258, l_260, l_261, l_262, l_364, l_680, l_700, l_701, l_840, l_999, l_1023, l_1024, l_9999, l_10000, l_1000000, lm]
  rw [ck_225 hw, pI_225 hw, bq_s, gI_225 (j := 2) hw1, bq_s, htp]
  by_cases q : tpd D ≤ 680
  · rw [if_pos (by rw [le_nI (by omega) (by omega)]; exact q), if_pos q, if_pos q]
    obtain ⟨ρ, g1, g2, g3⟩ := m_feed20 q a b c d e 20 0 5000 _ (by omega) (by omega) hw1 htp
    rw [g1]
    have hw3 := hw1.fr g2
    have e2 : ah_I ρ 225 2 = nI (tpd D) := (g2.I (by unfold XR; omega)).trans htp
    unfold f_X12_feed_110
    simp only [to_bq, l_0, l_1, l_2, l_3, l_4, l_5, l_6, l_7, l_8, l_9, l_10, l_11, l_12, l_13, l_14, l_15, l_16, l_17, l_18, l_19, l_20, l_21, l_22, l_23, l_24, l_25, l_26, l_27, l_28, l_29, l_30, l_31, l_32, l_40, l_41, l_42, l_43, l_44, l_45, l_46, l_47, l_48, l_49, l_50, l_51, l_52, l_53, l_54, l_55, l_56, l_57, l_58, l_59, l_60, l_61, l_62, l_63, l_64, l_72, l_97, l_99, l_100, l_104, l_120, l_122, l_128, l_140, l_255, l_256, l_257, l_258, l_260, l_261, l_262, l_364, l_680, l_700, l_701, l_840, l_999, l_1023, l_1024, l_9999, l_10000, l_1000000, lm]
    rw [gI_225 (j := 2) hw3, bq_s, e2, pI_225 hw3, bq_s, zadd, gI_225 (j := 2) (hw3.wI _ _ _), bq_s, rI_eq]
    refine ⟨_, rfl, rfl, (f1.mono Xq_ch).trans ((g2.mono (fun a j z => by unfold XR at z; unfold Xch; omega)).wI (by unfold Xch; omega)), ⟨hw3, h.2.1.feed q a b c d e, fun x j pm => ?_⟩⟩
    unfold dFeed
    rw [ah_I_wI]
    by_cases z1 : x = 225 ∧ j = 2
    · rw [if_pos z1, if_pos z1]
    rw [if_neg z1, if_neg z1]
    by_cases z2 : x = 226
    · subst z2
      rw [g3]
      by_cases z3 : tpd D + 0 ≤ j ∧ j < tpd D + 20
      · rw [if_pos z3, if_pos ⟨rfl, by omega, z3.2⟩]
      · rw [if_neg z3, if_neg (by omega)]; exact h1.at pm
    · rw [if_neg (fun w => z2 w.1), g2.I (by unfold XR; omega)]; exact h1.at pm
  · rw [if_neg (by rw [le_nI (by omega) (by omega)]; exact q), if_neg q, if_neg q]
    exact ⟨_, rfl, rfl, f1.mono Xq_ch, h1⟩
end
