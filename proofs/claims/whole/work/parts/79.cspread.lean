/-! THE CLASS: a table is spread -/
def RwA (A : Nat) : Prop := (∃ c, c < 7 ∧ A = 170 + c) ∨ ∃ c, c < 7 ∧ A = 178 + c
section
variable {σ : ah_H} {t : Nat} {D : DD} {A A' : Nat} {B : Int} {T : Tbl} {c : Nat}
theorem aL_A (hW : Wf σ) (h : RwA A) {k : Nat} (hk : k < 104) : op_aL σ A (nI k) = some (ah_L σ A k) := by
  rcases h with ⟨c, hc, rfl⟩ | ⟨c, hc, rfl⟩
  · exact aL_exact hW hc hk
  · exact aL_under hW hc hk
theorem sL_A (hW : Wf σ) (h : RwA A) {k : Nat} (hk : k < 104) {y : Int64} : op_sL σ A (nI k) y = some (ah_wL σ A k y) := by
  rcases h with ⟨c, hc, rfl⟩ | ⟨c, hc, rfl⟩
  · exact sL_exact hW hc hk
  · exact sL_under hW hc hk
def Xat (A i a j : Nat) : Prop := a = A ∧ (j = i ∨ j = 52 + i)
theorem c_offer (hW : Wf σ) (hA : RwA A) {i : Nat} (hi : i < 52) {z k : Int64} {o o' : VV} (h : Rp B (ah_L σ A i) (ah_L σ A (52 + i)) o) (h' : Rp B z k o') (hB : B < 9223372036854775808) : ∃ τ, f_X0_offer A (nI i) z k σ = some τ ∧ Fr (Xat A i) σ τ ∧ Rp B (ah_L τ A i) (ah_L τ A (52 + i)) (vmin o o') := by
  obtain ⟨P, p1, p2, p3⟩ := c_less (σ := σ) h' h hB
  by_cases qP : P
  · rw [cI_t qP] at p1
    refine ⟨ah_wL (ah_wL σ A i z) A (52 + i) k, ?_, ((Fr.rfl (X := Xat A i) (σ := σ)).wL ⟨rfl, Or.inl rfl⟩).wL ⟨rfl, Or.inr rfl⟩, ?_⟩
    · unfold f_X0_offer f_X0_offer_0
      simp only [to_bq, l_0, l_1, l_2, l_3, l_4, l_5, l_6, l_7, l_8, l_9, l_10, l_11, l_12, l_13, l_14, l_15, l_16, l_17, l_18, l_19, l_20, l_21, l_22, l_23, l_24, l_25, l_26, l_27, l_28, l_29, l_30, l_31, l_32, l_40, l_41, l_42, l_43, l_44, l_45, l_46, l_47, l_48, l_49, l_50, l_51, l_52, l_53, l_54, l_55, l_56, l_57, l_58, l_59, l_60, l_61, l_62, l_63, l_64, l_72, l_97, l_99, l_100, l_104, l_120, l_122, l_128, l_140, l_255, l_256, l_257, l_258, l_260, l_261, l_262, l_364, l_680, l_700, l_701, l_840, l_999, l_1023, l_1024, l_9999, l_10000, l_1000000, lm]
      rw [aL_A hW hA (by omega), bq_n, zadd, aL_A hW hA (by omega), bq_n, p1, bq_n]
      rw [if_neg (show ¬ (nI 1, σ).1 = nI 0 from (by decide : ¬ nI 1 = nI 0))]
      show bq _ _ (op_sL σ A (nI i) z) = _
      rw [sL_A hW hA (by omega), bq_n, sL_A (hW.wL _ _ _) hA (by omega), bq_n]
    · rw [rL_ne (by omega), rL_eq, rL_eq]
      exact p2 qP
  · rw [cI_f qP] at p1
    refine ⟨σ, ?_, Fr.rfl, p3 qP⟩
    unfold f_X0_offer f_X0_offer_0
    simp only [to_bq, l_0, l_1, l_2, l_3, l_4, l_5, l_6, l_7, l_8, l_9, l_10, l_11, l_12, l_13, l_14, l_15, l_16, l_17, l_18, l_19, l_20, l_21, l_22, l_23, l_24, l_25, l_26, l_27, l_28, l_29, l_30, l_31, l_32, l_40, l_41, l_42, l_43, l_44, l_45, l_46, l_47, l_48, l_49, l_50, l_51, l_52, l_53, l_54, l_55, l_56, l_57, l_58, l_59, l_60, l_61, l_62, l_63, l_64, l_72, l_97, l_99, l_100, l_104, l_120, l_122, l_128, l_140, l_255, l_256, l_257, l_258, l_260, l_261, l_262, l_364, l_680, l_700, l_701, l_840, l_999, l_1023, l_1024, l_9999, l_10000, l_1000000, lm]
    rw [aL_A hW hA (by omega), bq_n, zadd, aL_A hW hA (by omega), bq_n, p1, bq_n]
    exact if_pos rfl
def Xsp (A A' a j : Nat) : Prop := a = A ∨ a = A'
/-- spread as far as width w, depth k -/
def SpR (σ τ : ah_H) (D : DD) (A A' : Nat) (T : Tbl) (c w k : Nat) : Prop := Fr (Xsp A A') σ τ ∧ ∀ v b, v < nP D → lc D ≤ b → b ≤ mc D → ((v < w ∨ v = w ∧ b < k) → Rp NV (ah_L τ A (v * 13 + b)) (ah_L τ A (52 + (v * 13 + b))) (cmjT T c v b) ∧ Rp NV (ah_L τ A' (v * 13 + b)) (ah_L τ A' (52 + (v * 13 + b))) (comT T c v b)) ∧ (¬ (v < w ∨ v = w ∧ b < k) → Rp NV (ah_L τ A (v * 13 + b)) (ah_L τ A (52 + (v * 13 + b))) (T c v b))
theorem cmj_s (w b : Nat) : cmjT T c (w + 1) b = vmin (T c (w + 1) b) (cmjT T c w b) := by
  rw [vmin_c]; rfl
theorem cmj_0 (b : Nat) : cmjT T c 0 b = T c 0 b := rfl
theorem c_sp74 {K2 : Nat → Nat → Nat → Int32 → ah_H → Option (ah_H)} {K24 : Nat → Nat → Nat → Int32 → Int32 → ah_H → Option (ah_H)} (h : TR σ t D) (hp : ah_R σ 163 17 = some t) (hA : RwA A) (hA' : RwA A') (hne : A ≠ A') (hT : ∀ o v b, b < lc D → T o v b = none) {w k : Nat} (hw : w < nP D) (hk1 : lc D ≤ k) (hk2 : k ≤ mc D) (hj : Rp NV (ah_L σ A (w * 13 + k)) (ah_L σ A (52 + (w * 13 + k))) (cmjT T c w k)) (hu : lc D < k → Rp NV (ah_L σ A' (w * 13 + k - 1)) (ah_L σ A' (52 + (w * 13 + k) - 1)) (comT T c w (k - 1))) : ∃ τ, f_X0_spread_74 K2 K24 163 A A' (nI w) (nI k) (nI (w * 13 + k)) σ = K24 163 A A' (nI w) (nI (k + 1)) τ ∧ Fr (Xat A' (w * 13 + k)) σ τ ∧ Rp NV (ah_L τ A' (w * 13 + k)) (ah_L τ A' (52 + (w * 13 + k))) (comT T c w k) := by
  have hNV : NV = 100000000000000000 := rfl
  have htn := h.tn
  have hW := h.w
  have b4 := h.t.qp4
  have b12 := h.t.qmc12
  have hat : w * 13 + k < 52 := by omega
  have hA1 : 170 ≤ A ∧ A < 185 ∧ 170 ≤ A' ∧ A' < 185 := by
    refine ⟨?_, ?_, ?_, ?_⟩
    · rcases hA with ⟨c, hc, rfl⟩ | ⟨c, hc, rfl⟩ <;> omega
    · rcases hA with ⟨c, hc, rfl⟩ | ⟨c, hc, rfl⟩ <;> omega
    · rcases hA' with ⟨c, hc, rfl⟩ | ⟨c, hc, rfl⟩ <;> omega
    · rcases hA' with ⟨c, hc, rfl⟩ | ⟨c, hc, rfl⟩ <;> omega
  have f1 : Fr (Xat A' (w * 13 + k)) σ (ah_wL (ah_wL σ A' (w * 13 + k) (ah_L σ A (w * 13 + k))) A' (52 + (w * 13 + k)) (ah_L σ A (52 + (w * 13 + k)))) := ((Fr.rfl (X := Xat A' (w * 13 + k)) (σ := σ)).wL ⟨rfl, Or.inl rfl⟩).wL ⟨rfl, Or.inr rfl⟩
  have r1 : Rp NV (ah_L (ah_wL (ah_wL σ A' (w * 13 + k) (ah_L σ A (w * 13 + k))) A' (52 + (w * 13 + k)) (ah_L σ A (52 + (w * 13 + k)))) A' (w * 13 + k)) (ah_L (ah_wL (ah_wL σ A' (w * 13 + k) (ah_L σ A (w * 13 + k))) A' (52 + (w * 13 + k)) (ah_L σ A (52 + (w * 13 + k)))) A' (52 + (w * 13 + k))) (cmjT T c w k) := by
    rw [rL_ne (by omega), rL_eq, rL_eq]; exact hj
  have e0 : f_X0_spread_74 K2 K24 163 A A' (nI w) (nI k) (nI (w * 13 + k)) σ = (if nI k ≤ nI (lc D) then f_X0_spread_131 K2 K24 163 A A' (nI w) (nI k) (ah_wL (ah_wL σ A' (w * 13 + k) (ah_L σ A (w * 13 + k))) A' (52 + (w * 13 + k)) (ah_L σ A (52 + (w * 13 + k)))) else bq (fun v8 => bq (fun v9 => bq (fun r10 => f_X0_spread_131 K2 K24 163 A A' (nI w) (nI k) r10) () (f_X0_offer A' (nI (w * 13 + k)) v8 v9 (ah_wL (ah_wL σ A' (w * 13 + k) (ah_L σ A (w * 13 + k))) A' (52 + (w * 13 + k)) (ah_L σ A (52 + (w * 13 + k)))))) () (op_aL (ah_wL (ah_wL σ A' (w * 13 + k) (ah_L σ A (w * 13 + k))) A' (52 + (w * 13 + k)) (ah_L σ A (52 + (w * 13 + k)))) A' (nI (52 + (w * 13 + k)) - nI 1))) () (op_aL (ah_wL (ah_wL σ A' (w * 13 + k) (ah_L σ A (w * 13 + k))) A' (52 + (w * 13 + k)) (ah_L σ A (52 + (w * 13 + k)))) A' (nI (w * 13 + k) - nI 1))) := by
    have hpp : ah_R (ah_wL (ah_wL σ A' (w * 13 + k) (ah_L σ A (w * 13 + k))) A' (52 + (w * 13 + k)) (ah_L σ A (52 + (w * 13 + k)))) 163 17 = some t := by rw [ah_R_wL, ah_R_wL]; exact hp
    have hW2 : Wf (ah_wL (ah_wL σ A' (w * 13 + k) (ah_L σ A (w * 13 + k))) A' (52 + (w * 13 + k)) (ah_L σ A (52 + (w * 13 + k)))) := (hW.wL _ _ _).wL _ _ _
    unfold f_X0_spread_74
    simp only [to_bq, l_0, l_1, l_2, l_3, l_4, l_5, l_6, l_7, l_8, l_9, l_10, l_11, l_12, l_13, l_14, l_15, l_16, l_17, l_18, l_19, l_20, l_21, l_22, l_23, l_24, l_25, l_26, l_27, l_28, l_29, l_30, l_31, l_32, l_40, l_41, l_42, l_43, l_44, l_45, l_46, l_47, l_48, l_49, l_50, l_51, l_52, l_53, l_54, l_55, l_56, l_57, l_58, l_59, l_60, l_61, l_62, l_63, l_64, l_72, l_97, l_99, l_100, l_104, l_120, l_122, l_128, l_140, l_255, l_256, l_257, l_258, l_260, l_261, l_262, l_364, l_680, l_700, l_701, l_840, l_999, l_1023, l_1024, l_9999, l_10000, l_1000000, lm]
    rw [aL_A hW hA (by omega), bq_n, sL_A hW hA' (by omega), bq_n, zadd, aL_A (hW.wL _ _ _) hA (by omega), bq_n, sL_A (hW.wL _ _ _) hA' (by omega), bq_n, ah_L_wL, if_neg (by omega)]
    rw [gR_163_17 hW2, hpp, bq_n]
    simp (disch := first | (with_reducible assumption) | omega | exact ⟨by omega, by omega⟩ | ((with_reducible first | apply Wf.wI | apply Wf.wL | apply Wf.fL | apply Wf.fI | apply Wf.fr); (repeat (with_reducible first | assumption | apply Wf.wI | apply Wf.wL | apply Wf.fL | apply Wf.fI | apply Wf.fr)))) only [ck_t, gI_t, gL_t, pI_t, pZ0_t, pZ1_t, pL_t, ck_w, gI_w, gL_w, pI_w, pZ0_w, pZ1_w, pL_w, gR_t_1, gR_t_5, gR_t_7, gR_t_9, gR_t_10, gR_t_11, gR_t_12, gR_t_15, gR_w_2, gR_w_3, gR_w_4, gR_w_5, gR_w_6, gR_w_7, aR_crow, aR_srow, aR_prow, aR_rrow, aI_crow, sI_crow, len_crow, aI_srow, sI_srow, len_srow, aI_prow, sI_prow, len_prow, aI_rrow, sI_rrow, len_rrow, aI_t25, sI_t25, len_t25, aI_t31, sI_t31, len_t31, aI_t32, sI_t32, len_t32, aI_t34, sI_t34, len_t34, aI_t35, sI_t35, len_t35, aI_t36, sI_t36, len_t36, aI_t37, sI_t37, len_t37, aL_t38, sL_t38, len_t38, aL_t39, sL_t39, len_t39, bq_n, bd_s, mp_s, rz_0, rz_1, bI_rz, ah_I_wL, tr_lc h]
  rw [e0]
  by_cases q : lc D < k
  · rw [if_neg (by rw [le_nI (by omega) (by omega)]; omega), zsub (by omega), zsub (by omega), aL_A ((hW.wL _ _ _).wL _ _ _) hA' (by omega), aL_A ((hW.wL _ _ _).wL _ _ _) hA' (by omega), bq_n, bq_n, rL_ne (by omega), rL_ne (by omega), rL_ne (by omega), rL_ne (by omega)]
    obtain ⟨τ, o1, o2, o3⟩ := c_offer ((hW.wL _ _ _).wL _ _ _) hA' hat r1 (hu q) (by rw [hNV]; omega)
    rw [o1, bq_n]
    refine ⟨τ, ?_, f1.trans o2, ?_⟩
    · unfold f_X0_spread_131
      simp only [to_bq, l_0, l_1, l_2, l_3, l_4, l_5, l_6, l_7, l_8, l_9, l_10, l_11, l_12, l_13, l_14, l_15, l_16, l_17, l_18, l_19, l_20, l_21, l_22, l_23, l_24, l_25, l_26, l_27, l_28, l_29, l_30, l_31, l_32, l_40, l_41, l_42, l_43, l_44, l_45, l_46, l_47, l_48, l_49, l_50, l_51, l_52, l_53, l_54, l_55, l_56, l_57, l_58, l_59, l_60, l_61, l_62, l_63, l_64, l_72, l_97, l_99, l_100, l_104, l_120, l_122, l_128, l_140, l_255, l_256, l_257, l_258, l_260, l_261, l_262, l_364, l_680, l_700, l_701, l_840, l_999, l_1023, l_1024, l_9999, l_10000, l_1000000, lm]
      rw [zadd]
    · have := co_split (T := T) (w := w) (m := k) hT hk1 c
      rw [vmin_c] at this
      unfold coT abT juT at this
      rw [if_pos q] at this
      rw [this]; exact o3
  · rw [if_pos (by rw [le_nI (by omega) (by omega)]; omega)]
    refine ⟨_, ?_, f1, ?_⟩
    · unfold f_X0_spread_131
      simp only [to_bq, l_0, l_1, l_2, l_3, l_4, l_5, l_6, l_7, l_8, l_9, l_10, l_11, l_12, l_13, l_14, l_15, l_16, l_17, l_18, l_19, l_20, l_21, l_22, l_23, l_24, l_25, l_26, l_27, l_28, l_29, l_30, l_31, l_32, l_40, l_41, l_42, l_43, l_44, l_45, l_46, l_47, l_48, l_49, l_50, l_51, l_52, l_53, l_54, l_55, l_56, l_57, l_58, l_59, l_60, l_61, l_62, l_63, l_64, l_72, l_97, l_99, l_100, l_104, l_120, l_122, l_128, l_140, l_255, l_256, l_257, l_258, l_260, l_261, l_262, l_364, l_680, l_700, l_701, l_840, l_999, l_1023, l_1024, l_9999, l_10000, l_1000000, lm]
      rw [zadd]
    · have := co_split (T := T) (w := w) (m := k) hT hk1 c
      unfold coT abT juT at this
      rw [if_neg q] at this
      rw [this]; exact r1
theorem Rw_rng (h : RwA A) : 170 ≤ A ∧ A < 185 := by
  rcases h with ⟨c, hc, rfl⟩ | ⟨c, hc, rfl⟩ <;> omega
theorem SpR.tr {τ : ah_H} {w k : Nat} (h : TR σ t D) (hp : ah_R σ 163 17 = some t) (hA : RwA A) (hA' : RwA A') (hs : SpR σ τ D A A' T c w k) : TR τ t D ∧ ah_R τ 163 17 = some t := by
  have htn := h.tn
  have r1 := Rw_rng hA
  have r2 := Rw_rng hA'
  refine ⟨h.fr hs.1 (fun a j h1 h2 => by unfold Xsp; rcases htn with z | z <;> omega), ?_⟩
  rw [hs.1.R (Or.inr (by unfold Xsp; omega))]
  exact hp
theorem c_sp24 {K2 : Nat → Nat → Nat → Int32 → ah_H → Option (ah_H)} (h0 : TR σ t D) (hp0 : ah_R σ 163 17 = some t) (hA : RwA A) (hA' : RwA A') (hne : A ≠ A') (hT : ∀ o v b, b < lc D → T o v b = none) {w : Nat} (hw : w < nP D) : ∀ i k fu τ, k + i = mc D + 1 → i < fu → lc D ≤ k → SpR σ τ D A A' T c w k → ∃ τ', f_X0_spread_24 K2 fu 163 A A' (nI w) (nI k) τ = K2 163 A A' (nI (w + 1)) τ' ∧ SpR σ τ' D A A' T c (w + 1) (lc D) := by
  have hNV : NV = 100000000000000000 := rfl
  have htn := h0.tn
  have b4 := h0.t.qp4
  have b12 := h0.t.qmc12
  have rA := Rw_rng hA
  have rA' := Rw_rng hA'
  intro i
  induction i with
  | zero =>
    intro k fu τ hk hf hlk hs
    obtain ⟨fu, rfl⟩ : ∃ q, fu = q + 1 := ⟨fu - 1, by omega⟩
    obtain ⟨h, hp⟩ := hs.tr h0 hp0 hA hA'
    have hW := h.w
    refine ⟨τ, ?_, hs.1, fun v b hv hb1 hb2 => ⟨fun z => (hs.2 v b hv hb1 hb2).1 (by omega), fun z => (hs.2 v b hv hb1 hb2).2 (by omega)⟩⟩
    show f_X0_spread_24_b _ _ _ _ _ _ _ _ = _
    unfold f_X0_spread_24_b f_X0_spread_137
    simp only [to_bq, l_0, l_1, l_2, l_3, l_4, l_5, l_6, l_7, l_8, l_9, l_10, l_11, l_12, l_13, l_14, l_15, l_16, l_17, l_18, l_19, l_20, l_21, l_22, l_23, l_24, l_25, l_26, l_27, l_28, l_29, l_30, l_31, l_32, l_40, l_41, l_42, l_43, l_44, l_45, l_46, l_47, l_48, l_49, l_50, l_51, l_52, l_53, l_54, l_55, l_56, l_57, l_58, l_59, l_60, l_61, l_62, l_63, l_64, l_72, l_97, l_99, l_100, l_104, l_120, l_122, l_128, l_140, l_255, l_256, l_257, l_258, l_260, l_261, l_262, l_364, l_680, l_700, l_701, l_840, l_999, l_1023, l_1024, l_9999, l_10000, l_1000000, lm]
    simp (disch := first | (with_reducible assumption) | omega | exact ⟨by omega, by omega⟩ | ((with_reducible first | apply Wf.wI | apply Wf.wL | apply Wf.fL | apply Wf.fI | apply Wf.fr); (repeat (with_reducible first | assumption | apply Wf.wI | apply Wf.wL | apply Wf.fL | apply Wf.fI | apply Wf.fr)))) only [ck_163, gI_163, gL_163, pI_163, pZ0_163, pZ1_163, pL_163, gR_163_1, gR_163_2, gR_163_3, gR_163_5, gR_163_6, gR_163_7, gR_163_9, gR_163_10, gR_163_11, gR_163_12, gR_163_13, gR_163_14, gR_163_15, pR_163_17, gR_163_17, ck_t, gI_t, gL_t, pI_t, pZ0_t, pZ1_t, pL_t, ck_w, gI_w, gL_w, pI_w, pZ0_w, pZ1_w, pL_w, gR_t_1, gR_t_5, gR_t_7, gR_t_9, gR_t_10, gR_t_11, gR_t_12, gR_t_15, gR_w_2, gR_w_3, gR_w_4, gR_w_5, gR_w_6, gR_w_7, aR_crow, aR_srow, aR_prow, aR_rrow, aI_crow, sI_crow, len_crow, aI_srow, sI_srow, len_srow, aI_prow, sI_prow, len_prow, aI_rrow, sI_rrow, len_rrow, aI_t25, sI_t25, len_t25, aI_t31, sI_t31, len_t31, aI_t32, sI_t32, len_t32, aI_t34, sI_t34, len_t34, aI_t35, sI_t35, len_t35, aI_t36, sI_t36, len_t36, aI_t37, sI_t37, len_t37, aL_t38, sL_t38, len_t38, aL_t39, sL_t39, len_t39, bq_n, bd_s, mp_s, rz_0, rz_1, bI_rz, zadd, zmul, zsub, le_nI, lt_nI, eq_nI, neg_nI, gen_nI, neg_lt, neg_le, neg_lt', neg_le', nI_lt0, if_true, if_false, ite_true, ite_false, reduceIte, not_true, not_false, and_true, true_and, and_false, false_and, or_true, true_or, or_false, false_or, eq_self, hp, tr_mc h, show (mc D < k) = True from eq_true (by omega)]
  | succ i ih =>
    intro k fu τ hk hf hlk hs
    obtain ⟨fu, rfl⟩ : ∃ q, fu = q + 1 := ⟨fu - 1, by omega⟩
    obtain ⟨h, hp⟩ := hs.tr h0 hp0 hA hA'
    have hW := h.w
    have hat : w * 13 + k < 52 := by omega
    -- the row of the width gathers what is narrower
    have first : ∃ τ1, f_X0_spread_24 K2 (fu + 1) 163 A A' (nI w) (nI k) τ = f_X0_spread_74 K2 (f_X0_spread_24 K2 fu) 163 A A' (nI w) (nI k) (nI (w * 13 + k)) τ1 ∧ Fr (Xat A (w * 13 + k)) τ τ1 ∧ Rp NV (ah_L τ1 A (w * 13 + k)) (ah_L τ1 A (52 + (w * 13 + k))) (cmjT T c w k) := by
      have rG := (hs.2 w k hw hlk (by omega)).2 (by omega)
      by_cases q : w = 0
      · refine ⟨τ, ?_, Fr.rfl, by rw [q] at rG ⊢; exact rG⟩
        show f_X0_spread_24_b _ _ _ _ _ _ _ _ = _
        unfold f_X0_spread_24_b
        simp only [to_bq, l_0, l_1, l_2, l_3, l_4, l_5, l_6, l_7, l_8, l_9, l_10, l_11, l_12, l_13, l_14, l_15, l_16, l_17, l_18, l_19, l_20, l_21, l_22, l_23, l_24, l_25, l_26, l_27, l_28, l_29, l_30, l_31, l_32, l_40, l_41, l_42, l_43, l_44, l_45, l_46, l_47, l_48, l_49, l_50, l_51, l_52, l_53, l_54, l_55, l_56, l_57, l_58, l_59, l_60, l_61, l_62, l_63, l_64, l_72, l_97, l_99, l_100, l_104, l_120, l_122, l_128, l_140, l_255, l_256, l_257, l_258, l_260, l_261, l_262, l_364, l_680, l_700, l_701, l_840, l_999, l_1023, l_1024, l_9999, l_10000, l_1000000, lm]
        simp (disch := first | (with_reducible assumption) | omega | exact ⟨by omega, by omega⟩ | ((with_reducible first | apply Wf.wI | apply Wf.wL | apply Wf.fL | apply Wf.fI | apply Wf.fr); (repeat (with_reducible first | assumption | apply Wf.wI | apply Wf.wL | apply Wf.fL | apply Wf.fI | apply Wf.fr)))) only [ck_163, gI_163, gL_163, pI_163, pZ0_163, pZ1_163, pL_163, gR_163_1, gR_163_2, gR_163_3, gR_163_5, gR_163_6, gR_163_7, gR_163_9, gR_163_10, gR_163_11, gR_163_12, gR_163_13, gR_163_14, gR_163_15, pR_163_17, gR_163_17, ck_t, gI_t, gL_t, pI_t, pZ0_t, pZ1_t, pL_t, ck_w, gI_w, gL_w, pI_w, pZ0_w, pZ1_w, pL_w, gR_t_1, gR_t_5, gR_t_7, gR_t_9, gR_t_10, gR_t_11, gR_t_12, gR_t_15, gR_w_2, gR_w_3, gR_w_4, gR_w_5, gR_w_6, gR_w_7, aR_crow, aR_srow, aR_prow, aR_rrow, aI_crow, sI_crow, len_crow, aI_srow, sI_srow, len_srow, aI_prow, sI_prow, len_prow, aI_rrow, sI_rrow, len_rrow, aI_t25, sI_t25, len_t25, aI_t31, sI_t31, len_t31, aI_t32, sI_t32, len_t32, aI_t34, sI_t34, len_t34, aI_t35, sI_t35, len_t35, aI_t36, sI_t36, len_t36, aI_t37, sI_t37, len_t37, aL_t38, sL_t38, len_t38, aL_t39, sL_t39, len_t39, bq_n, bd_s, mp_s, rz_0, rz_1, bI_rz, zadd, zmul, zsub, le_nI, lt_nI, eq_nI, neg_nI, gen_nI, neg_lt, neg_le, neg_lt', neg_le', nI_lt0, if_true, if_false, ite_true, ite_false, reduceIte, not_true, not_false, and_true, true_and, and_false, false_and, or_true, true_or, or_false, false_or, eq_self, hp, tr_mc h, show (mc D < k) = False from eq_false (by omega), show (w ≤ 0) = True from eq_true (by omega)]
      · obtain ⟨u, rfl⟩ : ∃ u, w = u + 1 := ⟨w - 1, by omega⟩
        have rP := ((hs.2 u k (by omega) hlk (by omega)).1 (by omega)).1
        obtain ⟨τ1, o1, o2, o3⟩ := c_offer hW hA hat rG rP (by rw [hNV]; omega)
        refine ⟨τ1, ?_, o2, by rw [cmj_s]; exact o3⟩
        show f_X0_spread_24_b _ _ _ _ _ _ _ _ = _
        unfold f_X0_spread_24_b
        simp only [to_bq, l_0, l_1, l_2, l_3, l_4, l_5, l_6, l_7, l_8, l_9, l_10, l_11, l_12, l_13, l_14, l_15, l_16, l_17, l_18, l_19, l_20, l_21, l_22, l_23, l_24, l_25, l_26, l_27, l_28, l_29, l_30, l_31, l_32, l_40, l_41, l_42, l_43, l_44, l_45, l_46, l_47, l_48, l_49, l_50, l_51, l_52, l_53, l_54, l_55, l_56, l_57, l_58, l_59, l_60, l_61, l_62, l_63, l_64, l_72, l_97, l_99, l_100, l_104, l_120, l_122, l_128, l_140, l_255, l_256, l_257, l_258, l_260, l_261, l_262, l_364, l_680, l_700, l_701, l_840, l_999, l_1023, l_1024, l_9999, l_10000, l_1000000, lm]
        have a1 : op_aL τ A (nI (u * 13 + k)) = some (ah_L τ A (u * 13 + k)) := aL_A hW hA (by omega)
        have a2 : op_aL τ A (nI (52 + (u * 13 + k))) = some (ah_L τ A (52 + (u * 13 + k))) := aL_A hW hA (by omega)
        simp (disch := first | (with_reducible assumption) | omega | exact ⟨by omega, by omega⟩ | ((with_reducible first | apply Wf.wI | apply Wf.wL | apply Wf.fL | apply Wf.fI | apply Wf.fr); (repeat (with_reducible first | assumption | apply Wf.wI | apply Wf.wL | apply Wf.fL | apply Wf.fI | apply Wf.fr)))) only [ck_163, gI_163, gL_163, pI_163, pZ0_163, pZ1_163, pL_163, gR_163_1, gR_163_2, gR_163_3, gR_163_5, gR_163_6, gR_163_7, gR_163_9, gR_163_10, gR_163_11, gR_163_12, gR_163_13, gR_163_14, gR_163_15, pR_163_17, gR_163_17, ck_t, gI_t, gL_t, pI_t, pZ0_t, pZ1_t, pL_t, ck_w, gI_w, gL_w, pI_w, pZ0_w, pZ1_w, pL_w, gR_t_1, gR_t_5, gR_t_7, gR_t_9, gR_t_10, gR_t_11, gR_t_12, gR_t_15, gR_w_2, gR_w_3, gR_w_4, gR_w_5, gR_w_6, gR_w_7, aR_crow, aR_srow, aR_prow, aR_rrow, aI_crow, sI_crow, len_crow, aI_srow, sI_srow, len_srow, aI_prow, sI_prow, len_prow, aI_rrow, sI_rrow, len_rrow, aI_t25, sI_t25, len_t25, aI_t31, sI_t31, len_t31, aI_t32, sI_t32, len_t32, aI_t34, sI_t34, len_t34, aI_t35, sI_t35, len_t35, aI_t36, sI_t36, len_t36, aI_t37, sI_t37, len_t37, aL_t38, sL_t38, len_t38, aL_t39, sL_t39, len_t39, bq_n, bd_s, mp_s, rz_0, rz_1, bI_rz, zadd, zmul, zsub, le_nI, lt_nI, eq_nI, neg_nI, gen_nI, neg_lt, neg_le, neg_lt', neg_le', nI_lt0, if_true, if_false, ite_true, ite_false, reduceIte, not_true, not_false, and_true, true_and, and_false, false_and, or_true, true_or, or_false, false_or, eq_self, hp, tr_mc h, show (mc D < k) = False from eq_false (by omega), show (u + 1 ≤ 0) = False from eq_false (by omega), show (u + 1) * 13 + k - 13 = u * 13 + k by omega, show 52 + ((u + 1) * 13 + k) - 13 = 52 + (u * 13 + k) by omega, a1, a2, o1]
    obtain ⟨τ1, e1, e2, e3⟩ := first
    have h1 : TR τ1 t D := h.fr e2 (fun a j z1 z2 => by unfold Xat; rcases htn with z | z <;> omega)
    have hp1 : ah_R τ1 163 17 = some t := by rw [e2.R (Or.inr (by unfold Xat; omega))]; exact hp
    obtain ⟨τ2, g1, g2, g3⟩ := c_sp74 (K2 := K2) (K24 := f_X0_spread_24 K2 fu) h1 hp1 hA hA' hne hT hw hlk (by omega) e3 (fun q => by
      have := ((hs.2 w (k - 1) hw (by omega) (by omega)).1 (by omega)).2
      rw [e2.L (by unfold Xat; omega), e2.L (by unfold Xat; omega), show w * 13 + k - 1 = w * 13 + (k - 1) by omega, show 52 + (w * 13 + k) - 1 = 52 + (w * 13 + (k - 1)) by omega]
      exact this)
    rw [e1, g1]
    refine ih (k + 1) fu τ2 (by omega) (by omega) (by omega) ⟨(hs.1.trans (e2.mono (fun a j z => Or.inl z.1))).trans (g2.mono (fun a j z => Or.inr z.1)), fun v b hv hb1 hb2 => ?_⟩
    by_cases q : v = w ∧ b = k
    · obtain ⟨rfl, rfl⟩ := q
      refine ⟨fun _ => ⟨?_, g3⟩, fun z => absurd (Or.inr ⟨rfl, by omega⟩) z⟩
      rw [g2.L (by unfold Xat; omega), g2.L (by unfold Xat; omega)]
      exact e3
    · have ne1 : v * 13 + b ≠ w * 13 + k := by omega
      rw [g2.L (by unfold Xat; omega), g2.L (by unfold Xat; omega), e2.L (by unfold Xat; omega), e2.L (by unfold Xat; omega), g2.L (by unfold Xat; omega), g2.L (by unfold Xat; omega), e2.L (by unfold Xat; omega), e2.L (by unfold Xat; omega)]
      exact ⟨fun z => (hs.2 v b hv hb1 hb2).1 (by omega), fun z => (hs.2 v b hv hb1 hb2).2 (by omega)⟩
theorem c_sp2 (h0 : TR σ t D) (hp0 : ah_R σ 163 17 = some t) (hA : RwA A) (hA' : RwA A') (hne : A ≠ A') (hT : ∀ o v b, b < lc D → T o v b = none) : ∀ i w fu τ, w + i = nP D → i < fu → SpR σ τ D A A' T c w (lc D) → ∃ τ', f_X0_spread_2 fu 163 A A' (nI w) τ = some τ' ∧ SpR σ τ' D A A' T c (nP D) (lc D) := by
  have htn := h0.tn
  have b4 := h0.t.qp4
  have b12 := h0.t.qmc12
  have hlm := h0.t.qlmc
  intro i
  induction i with
  | zero =>
    intro w fu τ hw hf hs
    obtain ⟨fu, rfl⟩ : ∃ q, fu = q + 1 := ⟨fu - 1, by omega⟩
    obtain ⟨h, hp⟩ := hs.tr h0 hp0 hA hA'
    have hW := h.w
    refine ⟨τ, ?_, by rw [show w = nP D by omega] at hs; exact hs⟩
    show f_X0_spread_2_b _ _ _ _ _ _ = _
    unfold f_X0_spread_2_b
    simp only [to_bq, l_0, l_1, l_2, l_3, l_4, l_5, l_6, l_7, l_8, l_9, l_10, l_11, l_12, l_13, l_14, l_15, l_16, l_17, l_18, l_19, l_20, l_21, l_22, l_23, l_24, l_25, l_26, l_27, l_28, l_29, l_30, l_31, l_32, l_40, l_41, l_42, l_43, l_44, l_45, l_46, l_47, l_48, l_49, l_50, l_51, l_52, l_53, l_54, l_55, l_56, l_57, l_58, l_59, l_60, l_61, l_62, l_63, l_64, l_72, l_97, l_99, l_100, l_104, l_120, l_122, l_128, l_140, l_255, l_256, l_257, l_258, l_260, l_261, l_262, l_364, l_680, l_700, l_701, l_840, l_999, l_1023, l_1024, l_9999, l_10000, l_1000000, lm]
    simp (disch := first | (with_reducible assumption) | omega | exact ⟨by omega, by omega⟩ | ((with_reducible first | apply Wf.wI | apply Wf.wL | apply Wf.fL | apply Wf.fI | apply Wf.fr); (repeat (with_reducible first | assumption | apply Wf.wI | apply Wf.wL | apply Wf.fL | apply Wf.fI | apply Wf.fr)))) only [ck_163, gI_163, gL_163, pI_163, pZ0_163, pZ1_163, pL_163, gR_163_1, gR_163_2, gR_163_3, gR_163_5, gR_163_6, gR_163_7, gR_163_9, gR_163_10, gR_163_11, gR_163_12, gR_163_13, gR_163_14, gR_163_15, pR_163_17, gR_163_17, ck_t, gI_t, gL_t, pI_t, pZ0_t, pZ1_t, pL_t, ck_w, gI_w, gL_w, pI_w, pZ0_w, pZ1_w, pL_w, gR_t_1, gR_t_5, gR_t_7, gR_t_9, gR_t_10, gR_t_11, gR_t_12, gR_t_15, gR_w_2, gR_w_3, gR_w_4, gR_w_5, gR_w_6, gR_w_7, aR_crow, aR_srow, aR_prow, aR_rrow, aI_crow, sI_crow, len_crow, aI_srow, sI_srow, len_srow, aI_prow, sI_prow, len_prow, aI_rrow, sI_rrow, len_rrow, aI_t25, sI_t25, len_t25, aI_t31, sI_t31, len_t31, aI_t32, sI_t32, len_t32, aI_t34, sI_t34, len_t34, aI_t35, sI_t35, len_t35, aI_t36, sI_t36, len_t36, aI_t37, sI_t37, len_t37, aL_t38, sL_t38, len_t38, aL_t39, sL_t39, len_t39, bq_n, bd_s, mp_s, rz_0, rz_1, bI_rz, zadd, zmul, zsub, le_nI, lt_nI, eq_nI, neg_nI, gen_nI, neg_lt, neg_le, neg_lt', neg_le', nI_lt0, if_true, if_false, ite_true, ite_false, reduceIte, not_true, not_false, and_true, true_and, and_false, false_and, or_true, true_or, or_false, false_or, eq_self, hp, tr_P h, show (nP D ≤ w) = True from eq_true (by omega)]
  | succ i ih =>
    intro w fu τ hw hf hs
    obtain ⟨fu, rfl⟩ : ∃ q, fu = q + 1 := ⟨fu - 1, by omega⟩
    obtain ⟨h, hp⟩ := hs.tr h0 hp0 hA hA'
    have hW := h.w
    obtain ⟨τ', e1, e2⟩ := c_sp24 (K2 := f_X0_spread_2 fu) h0 hp0 hA hA' hne hT (show w < nP D by omega) (mc D + 1 - lc D) (lc D) 5000 τ (by omega) (by omega) (Nat.le_refl _) hs
    have he : f_X0_spread_2 (fu + 1) 163 A A' (nI w) τ = f_X0_spread_24 (f_X0_spread_2 fu) 5000 163 A A' (nI w) (nI (lc D)) τ := by
      show f_X0_spread_2_b _ _ _ _ _ _ = _
      unfold f_X0_spread_2_b
      simp only [to_bq, l_0, l_1, l_2, l_3, l_4, l_5, l_6, l_7, l_8, l_9, l_10, l_11, l_12, l_13, l_14, l_15, l_16, l_17, l_18, l_19, l_20, l_21, l_22, l_23, l_24, l_25, l_26, l_27, l_28, l_29, l_30, l_31, l_32, l_40, l_41, l_42, l_43, l_44, l_45, l_46, l_47, l_48, l_49, l_50, l_51, l_52, l_53, l_54, l_55, l_56, l_57, l_58, l_59, l_60, l_61, l_62, l_63, l_64, l_72, l_97, l_99, l_100, l_104, l_120, l_122, l_128, l_140, l_255, l_256, l_257, l_258, l_260, l_261, l_262, l_364, l_680, l_700, l_701, l_840, l_999, l_1023, l_1024, l_9999, l_10000, l_1000000, lm]
      simp (disch := first | (with_reducible assumption) | omega | exact ⟨by omega, by omega⟩ | ((with_reducible first | apply Wf.wI | apply Wf.wL | apply Wf.fL | apply Wf.fI | apply Wf.fr); (repeat (with_reducible first | assumption | apply Wf.wI | apply Wf.wL | apply Wf.fL | apply Wf.fI | apply Wf.fr)))) only [ck_163, gI_163, gL_163, pI_163, pZ0_163, pZ1_163, pL_163, gR_163_1, gR_163_2, gR_163_3, gR_163_5, gR_163_6, gR_163_7, gR_163_9, gR_163_10, gR_163_11, gR_163_12, gR_163_13, gR_163_14, gR_163_15, pR_163_17, gR_163_17, ck_t, gI_t, gL_t, pI_t, pZ0_t, pZ1_t, pL_t, ck_w, gI_w, gL_w, pI_w, pZ0_w, pZ1_w, pL_w, gR_t_1, gR_t_5, gR_t_7, gR_t_9, gR_t_10, gR_t_11, gR_t_12, gR_t_15, gR_w_2, gR_w_3, gR_w_4, gR_w_5, gR_w_6, gR_w_7, aR_crow, aR_srow, aR_prow, aR_rrow, aI_crow, sI_crow, len_crow, aI_srow, sI_srow, len_srow, aI_prow, sI_prow, len_prow, aI_rrow, sI_rrow, len_rrow, aI_t25, sI_t25, len_t25, aI_t31, sI_t31, len_t31, aI_t32, sI_t32, len_t32, aI_t34, sI_t34, len_t34, aI_t35, sI_t35, len_t35, aI_t36, sI_t36, len_t36, aI_t37, sI_t37, len_t37, aL_t38, sL_t38, len_t38, aL_t39, sL_t39, len_t39, bq_n, bd_s, mp_s, rz_0, rz_1, bI_rz, zadd, zmul, zsub, le_nI, lt_nI, eq_nI, neg_nI, gen_nI, neg_lt, neg_le, neg_lt', neg_le', nI_lt0, if_true, if_false, ite_true, ite_false, reduceIte, not_true, not_false, and_true, true_and, and_false, false_and, or_true, true_or, or_false, false_or, eq_self, hp, tr_P h, tr_lc h, show (nP D ≤ w) = False from eq_false (by omega)]
    rw [he, e1]
    exact ih (w + 1) fu τ' (by omega) (by omega) e2
theorem c_spread (h : TR σ t D) (hp : ah_R σ 163 17 = some t) (hc : c < 7) (hT : ∀ o v b, b < lc D → T o v b = none) (hG : ∀ v b, v < nP D → lc D ≤ b → b ≤ mc D → Rp NV (ah_L σ (170 + c) (v * 13 + b)) (ah_L σ (170 + c) (52 + (v * 13 + b))) (T c v b)) : ∃ τ, f_X0_spread 163 (170 + c) (178 + c) σ = some τ ∧ Fr (Xsp (170 + c) (178 + c)) σ τ ∧ CRow τ D T c := by
  have b4 := h.t.qp4
  obtain ⟨τ, e1, e2⟩ := c_sp2 (c := c) (T := T) h hp (Or.inl ⟨c, hc, rfl⟩) (Or.inr ⟨c, hc, rfl⟩) (by omega) hT (nP D) 0 5000 σ (by omega) (by omega) ⟨Fr.rfl, fun v b hv h1 h2 => ⟨fun z => by omega, fun _ => hG v b hv h1 h2⟩⟩
  refine ⟨τ, ?_, e2.1, fun v b hv h1 h2 => (e2.2 v b hv h1 h2).1 (Or.inl hv)⟩
  unfold f_X0_spread f_X0_spread_0
  rw [ck_163 h.w]
  exact e1
end
