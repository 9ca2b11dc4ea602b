/-! THE CLASS: a law is read, whole -/
def Xl2 (t l a j : Nat) : Prop := Xfm t a j ∨ Xs8 a j ∨ a = t + 37 ∧ j = l
def Xlw (t a j : Nat) : Prop := Xfm t a j ∨ Xs8 a j ∨ a = t + 36 ∨ a = t + 37 ∨ a = 88 ∧ j = 2
section
variable {σ τ : ah_H} {t p c : Nat} {S : List Nat} {o : List (Nat × Nat)} {T : Nat → Nat} {n N i : Nat}
theorem c_finish (h : CSk σ t S o p c) {law : Nat} (hl : law < 3) : f_X2_readLaw_97 88 (nI law) σ = some (nI 0, ah_wI σ (t + 37) law (nI o.length)) := by
  obtain ⟨hW, htn, h1, h2, h3, h4, h5, h6, h7, -⟩ := h
  unfold f_X2_readLaw_97 f_X4_finish f_X4_finish_0
  simp only [to_bq, l_0, l_1, l_2, l_3, l_4, l_5, l_6, l_7, l_8, l_9, l_10, l_11, l_12, l_13, l_14, l_15, l_16, l_17, l_18, l_19, l_20, l_21, l_22, l_23, l_24, l_25, l_26, l_27, l_28, l_29, l_30, l_31, l_32, l_40, l_41, l_42, l_43, l_44, l_45, l_46, l_47, l_48, l_49, l_50, l_51, l_52, l_53, l_54, l_55, l_56, l_57, l_58, l_59, l_60, l_61, l_62, l_63, l_64, l_72, l_97, l_99, l_100, l_104, l_120, l_122, l_128, l_140, l_255, l_256, l_257, l_258, l_260, l_261, l_262, l_364, l_680, l_700, l_701, l_840, l_999, l_1023, l_1024, l_9999, l_10000, l_1000000, lm]
  simp (disch := first | (with_reducible assumption) | omega | exact ⟨by omega, by omega⟩ | ((with_reducible first | apply Wf.wI | apply Wf.wL | apply Wf.fL | apply Wf.fI | apply Wf.fr); (repeat (with_reducible first | assumption | apply Wf.wI | apply Wf.wL | apply Wf.fL | apply Wf.fI | apply Wf.fr)))) only [ck_88, gI_88, gL_88, pI_88, pZ0_88, pZ1_88, pL_88, gR_88_0, gR_88_1, pR_88_2, gR_88_2, ck_t, gI_t, gL_t, pI_t, pZ0_t, pZ1_t, pL_t, ck_w, gI_w, gL_w, pI_w, pZ0_w, pZ1_w, pL_w, gR_t_1, gR_t_5, gR_t_7, gR_t_9, gR_t_10, gR_t_11, gR_t_12, gR_t_15, gR_w_2, gR_w_3, gR_w_4, gR_w_5, gR_w_6, gR_w_7, aR_crow, aR_srow, aR_prow, aR_rrow, aI_crow, sI_crow, len_crow, aI_srow, sI_srow, len_srow, aI_prow, sI_prow, len_prow, aI_rrow, sI_rrow, len_rrow, aI_t25, sI_t25, len_t25, aI_t31, sI_t31, len_t31, aI_t32, sI_t32, len_t32, aI_t34, sI_t34, len_t34, aI_t35, sI_t35, len_t35, aI_t36, sI_t36, len_t36, aI_t37, sI_t37, len_t37, aL_t38, sL_t38, len_t38, aL_t39, sL_t39, len_t39, bq_n, bd_s, mp_s, rz_0, rz_1, bI_rz, h1, h6]
/-- how it ends -/
def RLo (t law : Nat) (T : Nat → Nat) (n N : Nat) (m : MS) (r : Option (Int32 × ah_H)) (τ : ah_H) : Prop := (∃ f j, mfl (tks T n) m f j ∧ r = some (nI f, τ) ∧ 1 ≤ f ∧ f ≤ 2 ∧ CAt τ T n N j) ∨ (∃ i' o' S' c', men (tks T n) m (i', o', S', 0, c', false) ∧ r = some (nI 0, τ) ∧ CAt τ T n N i' ∧ CSk τ t S' o' 0 c' ∧ ah_I τ (t + 37) law = nI o'.length)
theorem RLo.to {law : Nat} {m m' : MS} {r : Option (Int32 × ah_H)} (h : RLo t law T n N m' r τ) (hm : mto (tks T n) m m') : RLo t law T n N m r τ := by
  rcases h with ⟨f, j, h1, h2⟩ | ⟨i', o', S', c', h1, h2⟩
  · exact Or.inl ⟨f, j, hm.fl h1, h2⟩
  · exact Or.inr ⟨i', o', S', c', hm.en h1, h2⟩
theorem c_rl35 {law : Nat} (hl : law < 3) (hv : ∀ i, TVb (tks T n i)) : ∀ f fu q σ i o S p c d, N - i ≤ f → f + 2 < fu → q ≤ i → CAt σ T n N i → CSk σ t S o p c → ah_I σ 88 5 = dI d → ah_I σ 88 6 = nI 0 → ∃ τ, Fr (Xl2 t law) σ τ ∧ RLo t law T n N (i, o, S, p, c, d) (f_X2_readLaw_35 fu 88 (nI law) (nI q) σ) τ := by
  intro f
  induction f with
  | zero =>
    intro fu q σ i o S p c d hf hfu hq hA h h5 h6
    obtain ⟨fu, rfl⟩ : ∃ q, fu = q + 1 := ⟨fu - 1, by omega⟩
    have hW := h.1
    have htn := h.2.1
    have hT : t = 2 ∨ t = 42 := htn
    have hN := hA.2.1.1
    have hiN := hA.2.2.1
    have key : ∃ τ r, (if ah_I σ 88 5 = 0 then f_X2_readSign 88 σ else f_X2_readSide 88 σ) = some (nI r, τ) ∧ Fr (Xfm t) σ τ ∧ SOt t τ r (mst (tks T n) (i, o, S, p, c, d)) (tks T n i) i := by
      cases d with
      | true =>
        rw [if_neg (by rw [h5]; decide)]
        exact c_side hA (hv i) h h5 h6
      | false =>
        rw [if_pos (by rw [h5]; rfl)]
        exact c_sign hA (hv i) h h5 h6
    obtain ⟨τ1, r, e1, f1, s1⟩ := key
    have hr : ∀ K x, (if ah_I σ 88 5 = 0 then ((f_X2_readSign 88 σ).bind fun r3 => f_X2_readLaw_67 K 88 (nI law) x r3.1 r3.2) else ((f_X2_readSide 88 σ).bind fun r4 => f_X2_readLaw_67 K 88 (nI law) x r4.1 r4.2)) = f_X2_readLaw_67 K 88 (nI law) x (nI r) τ1 := fun K x => by
      by_cases z : ah_I σ 88 5 = 0
      · rw [if_pos z] at e1 ⊢; rw [e1, bd_s]
      · rw [if_neg z] at e1 ⊢; rw [e1, bd_s]
    have hA1 : CAt τ1 T n N i := hA.fr f1 (fun a j _ => by unfold Xfm; omega)
    have hstart : f_X2_readLaw_35 (fu + 1) 88 (nI law) (nI q) σ = f_X2_readLaw_67 (f_X2_readLaw_35 fu) 88 (nI law) (nI q) (nI r) τ1 := by
      show f_X2_readLaw_35_b _ _ _ _ _ = _
      unfold f_X2_readLaw_35_b
      rw [if_neg (show ¬ (700 : Int32) < nI q from fun w => by
        have w : nI 700 < nI q := w
        rw [lt_nI (by omega) (by omega)] at w; omega), gI_88 hW, bd_s, h6, if_pos (show nI 0 = 0 from rfl), gI_88 hW, bd_s]
      exact hr _ _
    rw [hstart]
    rcases s1 with ⟨ff, m1, rfl, m2, m3⟩ | ⟨o', S', p', c', d', m1, rfl, k1, k2, k3, k4⟩ | ⟨o', S', c', m1, rfl, k1, k2⟩
    · refine ⟨τ1, f1.mono (fun a j z => Or.inl z), Or.inl ⟨r, i, mst_fl m1, ?_, m2, m3, hA1⟩⟩
      unfold f_X2_readLaw_67
      exact if_neg (show ¬ nI r = 0 from fun w => by
        have w : nI r = nI 0 := w
        rw [eq_nI (by omega) (by omega)] at w; omega)
    · exfalso
      exact k4 (by rw [show i = N by omega]; exact hA.2.1.2.1)
    · obtain ⟨fu, rfl⟩ : ∃ q, fu = q + 1 := ⟨fu - 1, by omega⟩
      have hW1 := k1.1
      have e97 := c_finish k1 hl
      refine ⟨ah_wI τ1 (t + 37) law (nI o'.length), (f1.mono (Y := Xl2 t law) (fun a j z => Or.inl z)).wI (Or.inr (Or.inr ⟨rfl, rfl⟩)), Or.inr ⟨i, o', S', c', mst_en m1, ?_, ?_, ?_, rI_eq⟩⟩
      · unfold f_X2_readLaw_67
        rw [if_pos (show nI 0 = 0 from rfl), gI_88 hW1, bd_s, k2, if_neg (show ¬ nI 1 = 0 by decide)]
        unfold f_X2_readLaw_91
        show f_X2_readLaw_35_b _ _ _ _ _ = _
        unfold f_X2_readLaw_35_b
        rw [gI_88 hW1, bd_s, k2, if_neg (show ¬ nI 1 = 0 by decide), e97, ite_self]
      · exact hA1.fr (X := fun a j => a = t + 37) (Fr.rfl.wI rfl) (fun a j _ => by omega)
      · exact k1.fr (X := fun a j => a = t + 37) (Fr.rfl.wI rfl) (fun a j _ => by omega)
  | succ f ih =>
    intro fu q σ i o S p c d hf hfu hq hA h h5 h6
    obtain ⟨fu, rfl⟩ : ∃ q, fu = q + 1 := ⟨fu - 1, by omega⟩
    have hW := h.1
    have htn := h.2.1
    have hT : t = 2 ∨ t = 42 := htn
    have hN := hA.2.1.1
    have hiN := hA.2.2.1
    have key : ∃ τ r, (if ah_I σ 88 5 = 0 then f_X2_readSign 88 σ else f_X2_readSide 88 σ) = some (nI r, τ) ∧ Fr (Xfm t) σ τ ∧ SOt t τ r (mst (tks T n) (i, o, S, p, c, d)) (tks T n i) i := by
      cases d with
      | true =>
        rw [if_neg (by rw [h5]; decide)]
        exact c_side hA (hv i) h h5 h6
      | false =>
        rw [if_pos (by rw [h5]; rfl)]
        exact c_sign hA (hv i) h h5 h6
    obtain ⟨τ1, r, e1, f1, s1⟩ := key
    have hr : ∀ K x, (if ah_I σ 88 5 = 0 then ((f_X2_readSign 88 σ).bind fun r3 => f_X2_readLaw_67 K 88 (nI law) x r3.1 r3.2) else ((f_X2_readSide 88 σ).bind fun r4 => f_X2_readLaw_67 K 88 (nI law) x r4.1 r4.2)) = f_X2_readLaw_67 K 88 (nI law) x (nI r) τ1 := fun K x => by
      by_cases z : ah_I σ 88 5 = 0
      · rw [if_pos z] at e1 ⊢; rw [e1, bd_s]
      · rw [if_neg z] at e1 ⊢; rw [e1, bd_s]
    have hA1 : CAt τ1 T n N i := hA.fr f1 (fun a j _ => by unfold Xfm; omega)
    have hstart : f_X2_readLaw_35 (fu + 1) 88 (nI law) (nI q) σ = f_X2_readLaw_67 (f_X2_readLaw_35 fu) 88 (nI law) (nI q) (nI r) τ1 := by
      show f_X2_readLaw_35_b _ _ _ _ _ = _
      unfold f_X2_readLaw_35_b
      rw [if_neg (show ¬ (700 : Int32) < nI q from fun w => by
        have w : nI 700 < nI q := w
        rw [lt_nI (by omega) (by omega)] at w; omega), gI_88 hW, bd_s, h6, if_pos (show nI 0 = 0 from rfl), gI_88 hW, bd_s]
      exact hr _ _
    rw [hstart]
    rcases s1 with ⟨ff, m1, rfl, m2, m3⟩ | ⟨o', S', p', c', d', m1, rfl, k1, k2, k3, k4⟩ | ⟨o', S', c', m1, rfl, k1, k2⟩
    · refine ⟨τ1, f1.mono (fun a j z => Or.inl z), Or.inl ⟨r, i, mst_fl m1, ?_, m2, m3, hA1⟩⟩
      unfold f_X2_readLaw_67
      exact if_neg (show ¬ nI r = 0 from fun w => by
        have w : nI r = nI 0 := w
        rw [eq_nI (by omega) (by omega)] at w; omega)
    · have hW1 := k1.1
      obtain ⟨τ2, e2, f2, hA2⟩ := c_step hA1 k4
      have x2 : ∀ a j, a ≠ 83 → ¬ Xs8 a j := fun a j _ => by unfold Xs8; omega
      have k12 : CSk τ2 t S' o' p' c' := k1.fr f2 (fun a j _ => x2 a j (by omega))
      obtain ⟨τ3, f3, r3⟩ := ih fu (q + 1) τ2 (i + 1) o' S' p' c' d' (by omega) (by omega) (by omega) hA2 k12 (by rw [f2.I (x2 _ _ (by omega))]; exact k2) (by rw [f2.I (x2 _ _ (by omega))]; exact k3)
      refine ⟨τ3, ((f1.mono (fun a j z => Or.inl z)).trans (f2.mono (fun a j z => Or.inr (Or.inl z)))).trans f3, ?_⟩
      have he : f_X2_readLaw_67 (f_X2_readLaw_35 fu) 88 (nI law) (nI q) (nI 0) τ1 = f_X2_readLaw_35 fu 88 (nI law) (nI (q + 1)) τ2 := by
        unfold f_X2_readLaw_67
        rw [if_pos (show nI 0 = 0 from rfl), gI_88 hW1, bd_s, k3, if_pos (show nI 0 = 0 from rfl), gR_88_0 hW1, bd_s, e2, bd_s]
        unfold f_X2_readLaw_91
        rw [show nI q + (1 : Int32) = nI (q + 1) from zadd _ _]
      rw [he]
      exact r3.to (mst_to m1)
    · obtain ⟨fu, rfl⟩ : ∃ q, fu = q + 1 := ⟨fu - 1, by omega⟩
      have hW1 := k1.1
      have e97 := c_finish k1 hl
      refine ⟨ah_wI τ1 (t + 37) law (nI o'.length), (f1.mono (Y := Xl2 t law) (fun a j z => Or.inl z)).wI (Or.inr (Or.inr ⟨rfl, rfl⟩)), Or.inr ⟨i, o', S', c', mst_en m1, ?_, ?_, ?_, rI_eq⟩⟩
      · unfold f_X2_readLaw_67
        rw [if_pos (show nI 0 = 0 from rfl), gI_88 hW1, bd_s, k2, if_neg (show ¬ nI 1 = 0 by decide)]
        unfold f_X2_readLaw_91
        show f_X2_readLaw_35_b _ _ _ _ _ = _
        unfold f_X2_readLaw_35_b
        rw [gI_88 hW1, bd_s, k2, if_neg (show ¬ nI 1 = 0 by decide), e97, ite_self]
      · exact hA1.fr (X := fun a j => a = t + 37) (Fr.rfl.wI rfl) (fun a j _ => by omega)
      · exact k1.fr (X := fun a j => a = t + 37) (Fr.rfl.wI rfl) (fun a j _ => by omega)
/-- the knots of a town that is told -/
def KnC (σ : ah_H) (t : Nat) (o : List (Nat × Nat)) : Prop := o.length ≤ 64 ∧ ah_I σ (t + 33) 0 = nI o.length ∧ ah_I σ (t + 33) 1 = nI o.length ∧ ∀ j, j < o.length → knC (nI (o.getD j (0, 0)).1) (nI (o.getD j (0, 0)).2) (ah_I σ (t + 34) j) (ah_I σ (t + 35) j)
theorem c_readLaw {law : Nat} (hl : law < 3) (hv : ∀ i, TVb (tks T n i)) (hA : CAt σ T n N i) (htn : Tn t) (hK : KnC σ t o) : ∃ τ, Fr (Xlw t) σ τ ∧ RLo t law T n N (i, o, [], 0, o.length, true) (f_X2_readLaw 88 (t + 33) (nI law) σ) τ ∧ ah_I τ (t + 36) law = nI o.length ∧ (∀ k, k ≠ law → ah_I τ (t + 36) k = ah_I σ (t + 36) k ∧ ah_I τ (t + 37) k = ah_I σ (t + 37) k) := by
  have hT : t = 2 ∨ t = 42 := htn
  have hW := hA.w
  have hN := hA.2.1.1
  have hiN := hA.2.2.1
  obtain ⟨h1, h2, h3, h4⟩ := hK
  have hm : (88, 2) ∈ mut0 := by decide
  have f1 : Fr (fun a j => a = 88 ∨ a = t + 36 ∧ j = law) σ (ah_wI (ah_wI (ah_wI (ah_wI (ah_wI (ah_wR σ 88 2 (some (t + 33))) 88 3 (nI 0)) 88 4 (nI 0)) 88 5 (nI 1)) 88 6 (nI 0)) (t + 36) law (nI o.length)) := (((((Fr.rfl.wR hm (Or.inl rfl)).wI (Or.inl rfl)).wI (Or.inl rfl)).wI (Or.inl rfl)).wI (Or.inl rfl)).wI (Or.inr ⟨rfl, rfl⟩)
  have f1' : Fr (Xlw t) σ (ah_wI (ah_wI (ah_wI (ah_wI (ah_wI (ah_wR σ 88 2 (some (t + 33))) 88 3 (nI 0)) 88 4 (nI 0)) 88 5 (nI 1)) 88 6 (nI 0)) (t + 36) law (nI o.length)) := (((((Fr.rfl.wR hm (by unfold Xlw; omega)).wI (by unfold Xlw Xfm; omega)).wI (by unfold Xlw Xfm; omega)).wI (by unfold Xlw Xfm; omega)).wI (by unfold Xlw Xfm; omega)).wI (by unfold Xlw; omega)
  have e88 : ah_R (ah_wI (ah_wI (ah_wI (ah_wI (ah_wI (ah_wR σ 88 2 (some (t + 33))) 88 3 (nI 0)) 88 4 (nI 0)) 88 5 (nI 1)) 88 6 (nI 0)) (t + 36) law (nI o.length)) 88 2 = some (t + 33) := by
    simp only [ah_R_wI]
    exact rR_eq
  have v3 : ah_I (ah_wI (ah_wI (ah_wI (ah_wI (ah_wI (ah_wR σ 88 2 (some (t + 33))) 88 3 (nI 0)) 88 4 (nI 0)) 88 5 (nI 1)) 88 6 (nI 0)) (t + 36) law (nI o.length)) 88 3 = nI 0 := by rw [rI_ne (by omega), rI_ne (by omega), rI_ne (by omega), rI_ne (by omega), rI_eq]
  have v4 : ah_I (ah_wI (ah_wI (ah_wI (ah_wI (ah_wI (ah_wR σ 88 2 (some (t + 33))) 88 3 (nI 0)) 88 4 (nI 0)) 88 5 (nI 1)) 88 6 (nI 0)) (t + 36) law (nI o.length)) 88 4 = nI 0 := by rw [rI_ne (by omega), rI_ne (by omega), rI_ne (by omega), rI_eq]
  have v5 : ah_I (ah_wI (ah_wI (ah_wI (ah_wI (ah_wI (ah_wR σ 88 2 (some (t + 33))) 88 3 (nI 0)) 88 4 (nI 0)) 88 5 (nI 1)) 88 6 (nI 0)) (t + 36) law (nI o.length)) 88 5 = nI 1 := by rw [rI_ne (by omega), rI_ne (by omega), rI_eq]
  have v6 : ah_I (ah_wI (ah_wI (ah_wI (ah_wI (ah_wI (ah_wR σ 88 2 (some (t + 33))) 88 3 (nI 0)) 88 4 (nI 0)) 88 5 (nI 1)) 88 6 (nI 0)) (t + 36) law (nI o.length)) 88 6 = nI 0 := by rw [rI_ne (by omega), rI_eq]
  have v36 : ah_I (ah_wI (ah_wI (ah_wI (ah_wI (ah_wI (ah_wR σ 88 2 (some (t + 33))) 88 3 (nI 0)) 88 4 (nI 0)) 88 5 (nI 1)) 88 6 (nI 0)) (t + 36) law (nI o.length)) (t + 36) law = nI o.length := rI_eq
  have hstart : f_X2_readLaw 88 (t + 33) (nI law) σ = f_X2_readLaw_35 5000 88 (nI law) (nI 0) (ah_wI (ah_wI (ah_wI (ah_wI (ah_wI (ah_wR σ 88 2 (some (t + 33))) 88 3 (nI 0)) 88 4 (nI 0)) 88 5 (nI 1)) 88 6 (nI 0)) (t + 36) law (nI o.length)) := by
    have hW1 : Wf (ah_wR σ 88 2 (some (t + 33))) := hW.wR hm
    unfold f_X2_readLaw f_X2_readLaw_0 f_X4_start f_X4_start_0
    simp only [to_bq, l_0, l_1, l_2, l_3, l_4, l_5, l_6, l_7, l_8, l_9, l_10, l_11, l_12, l_13, l_14, l_15, l_16, l_17, l_18, l_19, l_20, l_21, l_22, l_23, l_24, l_25, l_26, l_27, l_28, l_29, l_30, l_31, l_32, l_40, l_41, l_42, l_43, l_44, l_45, l_46, l_47, l_48, l_49, l_50, l_51, l_52, l_53, l_54, l_55, l_56, l_57, l_58, l_59, l_60, l_61, l_62, l_63, l_64, l_72, l_97, l_99, l_100, l_104, l_120, l_122, l_128, l_140, l_255, l_256, l_257, l_258, l_260, l_261, l_262, l_364, l_680, l_700, l_701, l_840, l_999, l_1023, l_1024, l_9999, l_10000, l_1000000, lm]
    simp (disch := first | (with_reducible assumption) | omega | exact ⟨by omega, by omega⟩ | ((with_reducible first | apply Wf.wI | apply Wf.wL | apply Wf.fL | apply Wf.fI | apply Wf.fr); (repeat (with_reducible first | assumption | apply Wf.wI | apply Wf.wL | apply Wf.fL | apply Wf.fI | apply Wf.fr)))) only [ck_88, gI_88, gL_88, pI_88, pZ0_88, pZ1_88, pL_88, gR_88_0, gR_88_1, pR_88_2, gR_88_2, ck_t, gI_t, gL_t, pI_t, pZ0_t, pZ1_t, pL_t, ck_w, gI_w, gL_w, pI_w, pZ0_w, pZ1_w, pL_w, gR_t_1, gR_t_5, gR_t_7, gR_t_9, gR_t_10, gR_t_11, gR_t_12, gR_t_15, gR_w_2, gR_w_3, gR_w_4, gR_w_5, gR_w_6, gR_w_7, aR_crow, aR_srow, aR_prow, aR_rrow, aI_crow, sI_crow, len_crow, aI_srow, sI_srow, len_srow, aI_prow, sI_prow, len_prow, aI_rrow, sI_rrow, len_rrow, aI_t25, sI_t25, len_t25, aI_t31, sI_t31, len_t31, aI_t32, sI_t32, len_t32, aI_t34, sI_t34, len_t34, aI_t35, sI_t35, len_t35, aI_t36, sI_t36, len_t36, aI_t37, sI_t37, len_t37, aL_t38, sL_t38, len_t38, aL_t39, sL_t39, len_t39, bq_n, bd_s, mp_s, rz_0, rz_1, bI_rz, ah_R_wI, rR_eq, rI_ne, rI_eq, rL_ne, rL_eq, ah_I_wL, ah_L_wI, ah_R_wI, ah_R_wL, ah_I_wR, ah_L_wR, rR_ne, rR_eq, h3]
  rw [hstart]
  generalize ah_wI (ah_wI (ah_wI (ah_wI (ah_wI (ah_wR σ 88 2 (some (t + 33))) 88 3 (nI 0)) 88 4 (nI 0)) 88 5 (nI 1)) 88 6 (nI 0)) (t + 36) law (nI o.length) = ρ at *
  have hA1 : CAt ρ T n N i := hA.fr f1 (fun a j _ => by omega)
  have k1 : CSk ρ t [] o 0 o.length := ⟨hW.fr f1, htn, e88, v3, (fun j hj => by cases hj), v4, by rw [f1.I (by omega)]; exact h2, by rw [f1.I (by omega)]; exact h3, fun j hj => by rw [f1.I (by omega), f1.I (by omega)]; exact h4 j hj, h1, by omega, rfl, by show o.length + 0 ≤ _; omega, fun x hx => by cases hx⟩
  obtain ⟨τ, f2, r2⟩ := c_rl35 (t := t) hl hv (N - i) 5000 0 ρ i o [] 0 o.length true (Nat.le_refl _) (by omega) (by omega) hA1 k1 v5 v6
  have f2' : Fr (Xlw t) ρ τ := f2.mono (fun a j z => by
    rcases z with z | z | z
    · exact Or.inl z
    · exact Or.inr (Or.inl z)
    · exact Or.inr (Or.inr (Or.inr (Or.inl z.1))))
  refine ⟨τ, f1'.trans f2', r2, ?_, fun k hk => ⟨?_, ?_⟩⟩
  · rw [f2.I (by unfold Xl2 Xfm Xs8; omega)]; exact v36
  · rw [f2.I (by unfold Xl2 Xfm Xs8; omega), f1.I (by omega)]
  · rw [f2.I (by unfold Xl2 Xfm Xs8; omega), f1.I (by omega)]
end
