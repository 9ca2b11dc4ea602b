/-! THE CLASS: a tree is turned to the river -/
def Xot (a j : Nat) : Prop := a = 164 ∨ a = 165 ∨ a = 163 ∧ j = 4
/-- corners in the order in which they are met -/
def OQ (D : DD) (m r L : Nat) (st : Nat → Option Nat) (q : Nat → Nat) : Prop := 1 ≤ L ∧ q 0 = r ∧ (∀ j, j < L → q j < nC D) ∧ (∀ i j, i < L → j < L → q i = q j → i = j) ∧ (∀ c, (¬ ∃ j, 1 ≤ j ∧ j < L ∧ q j = c) → st c = none) ∧ ∀ j, 1 ≤ j → j < L → ∃ s, st (q j) = some s ∧ s < nS D ∧ m.testBit s = true ∧ tch D s (q j) ∧ ∃ i, i < j ∧ q i = oth D s (q j)
/-- the streets of the first corners have been followed -/
def OC (D : DD) (m L i k : Nat) (q : Nat → Nat) : Prop := (∀ j, j < i → ∀ s, s < nS D → m.testBit s = true → tch D s (q j) → ∃ l, l < L ∧ q l = oth D s (q j)) ∧ ∀ s, s < k → m.testBit s = true → tch D s (q i) → ∃ l, l < L ∧ q l = oth D s (q i)
def OM (M L : Nat) (q : Nat → Nat) : Prop := ∀ c, M.testBit c = true ↔ ∃ j, j < L ∧ q j = c
def OS (σ τ : ah_H) (D : DD) (m r L M : Nat) (st : Nat → Option Nat) (q : Nat → Nat) : Prop := Fr Xot σ τ ∧ OQ D m r L st q ∧ M < 1024 ∧ OM M L q ∧ ah_I τ 163 4 = nI L ∧ (∀ j, j < L → ah_I τ 165 j = nI (q j)) ∧ ∀ c, c < 7 → ah_I τ 164 c = sv (st c)
section
variable {σ τ : ah_H} {t : Nat} {D : DD} {m r L M : Nat} {st : Nat → Option Nat} {q : Nat → Nat}
theorem inj_le {f : Nat → Nat} {n k : Nat} (h1 : ∀ j, j < k → f j < n) (h2 : ∀ i j, i < k → j < k → f i = f j → i = j) : k ≤ n := by
  apply Classical.byContradiction
  intro z
  obtain ⟨i, j, h3, h4, h5⟩ := php n f (fun i hi => h1 i (by omega))
  have := h2 i j (by omega) (by omega) h5
  omega
def qap (q : Nat → Nat) (L c : Nat) : Nat → Nat := fun j => if j = L then c else q j
theorem qap_e {c : Nat} : qap q L c L = c := if_pos rfl
theorem qap_n {c j : Nat} (h : j ≠ L) : qap q L c j = q j := if_neg h
theorem OQ.le (h : OQ D m r L st q) : L ≤ nC D := inj_le h.2.2.1 h.2.2.2.1
theorem OQ.inj2 (h : OQ D m r L st q) {c : Nat} (hc : c < nC D) (hn : ¬ ∃ j, j < L ∧ q j = c) : (∀ j, j < L + 1 → qap q L c j < nC D) ∧ ∀ i j, i < L + 1 → j < L + 1 → qap q L c i = qap q L c j → i = j := by
  refine ⟨fun j hj => ?_, fun i j hi hj e => ?_⟩
  · by_cases z : j = L
    · rw [z, qap_e]; exact hc
    · rw [qap_n z]; exact h.2.2.1 j (by omega)
  · by_cases z : i = L
    · by_cases w : j = L
      · omega
      · rw [z, qap_e, qap_n w] at e
        exact absurd ⟨j, by omega, e.symm⟩ hn
    · by_cases w : j = L
      · rw [w, qap_e, qap_n z] at e
        exact absurd ⟨i, by omega, e⟩ hn
      · rw [qap_n z, qap_n w] at e
        exact h.2.2.2.1 i j (by omega) (by omega) e
theorem OQ.lt (h : OQ D m r L st q) {c : Nat} (hc : c < nC D) (hn : ¬ ∃ j, j < L ∧ q j = c) : L < nC D := by
  obtain ⟨h1, h2⟩ := h.inj2 hc hn
  have := inj_le h1 h2
  omega
theorem OQ.add (h : OQ D m r L st q) {c s i : Nat} (hc : c < nC D) (hn : ¬ ∃ j, j < L ∧ q j = c) (hs : s < nS D) (hm : m.testBit s = true) (ht : tch D s c) (hi : i < L) (ho : q i = oth D s c) : OQ D m r (L + 1) (upo st c s) (qap q L c) := by
  obtain ⟨h1, h2, h3, h4, h5, h6⟩ := h
  obtain ⟨k1, k2⟩ := OQ.inj2 ⟨h1, h2, h3, h4, h5, h6⟩ hc hn
  refine ⟨by omega, by rw [qap_n (by omega)]; exact h2, k1, k2, fun x hx => ?_, fun j hj1 hj2 => ?_⟩
  · have hxc : x ≠ c := fun z => hx ⟨L, by omega, by omega, by rw [qap_e]; exact z.symm⟩
    rw [upo_n hxc]
    refine h5 x (fun ⟨j, z1, z2, z3⟩ => hx ⟨j, z1, by omega, ?_⟩)
    rw [qap_n (by omega)]; exact z3
  · by_cases z : j = L
    · subst z
      rw [qap_e, upo_e]
      exact ⟨s, rfl, hs, hm, ht, i, hi, by rw [qap_n (by omega)]; exact ho⟩
    · rw [qap_n z]
      have hqc : q j ≠ c := fun w => hn ⟨j, by omega, w⟩
      obtain ⟨s', z1, z2, z3, z4, i', z5, z6⟩ := h6 j hj1 (by omega)
      exact ⟨s', by rw [upo_n hqc]; exact z1, z2, z3, z4, i', z5, by rw [qap_n (by omega)]; exact z6⟩
theorem OC.add {i k c : Nat} (h : OC D m L i k q) (hi : i < L) : OC D m (L + 1) i k (qap q L c) := by
  refine ⟨fun j hj s h1 h2 h3 => ?_, fun s h1 h2 h3 => ?_⟩
  · rw [qap_n (by omega)] at h3 ⊢
    obtain ⟨l, z1, z2⟩ := h.1 j hj s h1 h2 h3
    exact ⟨l, by omega, by rw [qap_n (by omega)]; exact z2⟩
  · rw [qap_n (by omega)] at h3 ⊢
    obtain ⟨l, z1, z2⟩ := h.2 s h1 h2 h3
    exact ⟨l, by omega, by rw [qap_n (by omega)]; exact z2⟩
theorem OC.next {i : Nat} (h : OC D m L i (nS D) q) : OC D m L (i + 1) 0 q := by
  refine ⟨fun j hj s h1 h2 h3 => ?_, fun s h1 => by omega⟩
  by_cases z : j = i
  · subst z; exact h.2 s h1 h2 h3
  · exact h.1 j (by omega) s h1 h2 h3
theorem OC.stay {i k : Nat} (h : OC D m L i k q) (hx : m.testBit k = true → tch D k (q i) → ∃ l, l < L ∧ q l = oth D k (q i)) : OC D m L i (k + 1) q := by
  refine ⟨h.1, fun s h1 h2 h3 => ?_⟩
  by_cases z : s = k
  · subst z; exact hx h2 h3
  · exact h.2 s (by omega) h2 h3
theorem Xot_no {a j : Nat} (h : a < 160) : ¬ Xot a j := by unfold Xot; omega
theorem OS.tr (h : TR σ t D) (hp : ah_R σ 163 17 = some t) (hs : OS σ τ D m r L M st q) : TR τ t D ∧ ah_R τ 163 17 = some t := by
  have ht := h.tn
  refine ⟨h.fr hs.1 (fun a j h1 h2 => Xot_no (by rcases ht with z | z <;> omega)), ?_⟩
  rw [hs.1.R (Or.inr (by unfold Xot; omega))]
  exact hp
theorem OS.add (hs : OS σ τ D m r L M st q) (h7 : nC D ≤ 7) {c s i : Nat} (hc : c < nC D) (hn : ¬ M.testBit c = true) (hss : s < nS D) (hm : m.testBit s = true) (ht : tch D s c) (hi : i < L) (ho : q i = oth D s c) : OS σ (ah_wI (ah_wI (ah_wI τ 164 c (nI s)) 165 L (nI c)) 163 4 (nI (L + 1))) D m r (L + 1) (M ||| 2 ^ c) (upo st c s) (qap q L c) := by
  obtain ⟨h1, h2, h3, h4, h5, h6, h8⟩ := hs
  have hn' : ¬ ∃ j, j < L ∧ q j = c := fun z => hn ((h4 c).mpr z)
  have hl := h2.lt hc hn'
  refine ⟨((h1.wI (Or.inl rfl)).wI (Or.inr (Or.inl rfl))).wI (Or.inr (Or.inr ⟨rfl, rfl⟩)), h2.add hc hn' hss hm ht hi ho, or_b (k := 10) h3 (pw_b (by omega)), fun x => ?_, by rw [rI_eq], fun j hj => ?_, fun x hx => ?_⟩
  · rw [tb_set, h4]
    constructor
    · rintro (⟨j, z1, z2⟩ | z)
      · exact ⟨j, by omega, by rw [qap_n (by omega)]; exact z2⟩
      · exact ⟨L, by omega, by rw [qap_e]; exact z.symm⟩
    · rintro ⟨j, z1, z2⟩
      by_cases z : j = L
      · rw [z, qap_e] at z2; exact Or.inr z2.symm
      · rw [qap_n z] at z2; exact Or.inl ⟨j, by omega, z2⟩
  · rw [rI_ne (by omega)]
    by_cases z : j = L
    · rw [z, rI_eq, qap_e]
    · rw [rI_ne (by omega), rI_ne (by omega), qap_n z]; exact h6 j (by omega)
  · rw [rI_ne (by omega), rI_ne (by omega)]
    by_cases z : x = c
    · rw [z, rI_eq, upo_e]; rfl
    · rw [rI_ne (by omega), upo_n z]; exact h8 x hx
theorem c_or49 {K38 : Nat → Int32 → Int32 → Int32 → ah_H → Option (ah_H)} (h0 : TR σ t D) (hp0 : ah_R σ 163 17 = some t) (hm : m < 1024) {i : Nat} : ∀ n k fu τ L M st q, k + n = nS D → n < fu → i < L → OS σ τ D m r L M st q → OC D m L i k q → ∃ τ' L' M' st' q', f_X0_orient_49 K38 fu 163 (nI m) (nI M) (nI i) (nI k) τ = K38 163 (nI m) (nI M') (nI (i + 1)) τ' ∧ i < L' ∧ OS σ τ' D m r L' M' st' q' ∧ OC D m L' (i + 1) 0 q' := by
  have htn := h0.tn
  have b1 := h0.t.qs10
  have b2 := h0.t.qc7
  intro n
  induction n with
  | zero =>
    intro k fu τ L M st q hk hf hi hs hc
    obtain ⟨fu, rfl⟩ : ∃ q, fu = q + 1 := ⟨fu - 1, by omega⟩
    obtain ⟨h, hp⟩ := hs.tr h0 hp0
    have hW := h.w
    refine ⟨τ, L, M, st, q, ?_, hi, hs, by rw [show k = nS D by omega] at hc; exact hc.next⟩
    show f_X0_orient_49_b _ _ _ _ _ _ _ _ = _
    unfold f_X0_orient_49_b f_X0_orient_169
    simp only [to_bq, l_0, l_1, l_2, l_3, l_4, l_5, l_6, l_7, l_8, l_9, l_10, l_11, l_12, l_13, l_14, l_15, l_16, l_17, l_18, l_19, l_20, l_21, l_22, l_23, l_24, l_25, l_26, l_27, l_28, l_29, l_30, l_31, l_32, l_40, l_41, l_42, l_43, l_44, l_45, l_46, l_47, l_48, l_49, l_50, l_51, l_52, l_53, l_54, l_55, l_56, l_57, l_58, l_59, l_60, l_61, l_62, l_63, l_64, l_72, l_97, l_99, l_100, l_104, l_120, l_122, l_128, l_140, l_255, l_256, l_257, l_258, l_260, l_261, l_262, l_364, l_680, l_700, l_701, l_840, l_999, l_1023, l_1024, l_9999, l_10000, l_1000000, lm]
    simp (disch := first | (with_reducible assumption) | omega | exact ⟨by omega, by omega⟩ | ((with_reducible first | apply Wf.wI | apply Wf.wL | apply Wf.fL | apply Wf.fI | apply Wf.fr); (repeat (with_reducible first | assumption | apply Wf.wI | apply Wf.wL | apply Wf.fL | apply Wf.fI | apply Wf.fr)))) only [ck_163, gI_163, gL_163, pI_163, pZ0_163, pZ1_163, pL_163, gR_163_1, gR_163_2, gR_163_3, gR_163_5, gR_163_6, gR_163_7, gR_163_9, gR_163_10, gR_163_11, gR_163_12, gR_163_13, gR_163_14, gR_163_15, pR_163_17, gR_163_17, ck_t, gI_t, gL_t, pI_t, pZ0_t, pZ1_t, pL_t, ck_w, gI_w, gL_w, pI_w, pZ0_w, pZ1_w, pL_w, gR_t_1, gR_t_5, gR_t_7, gR_t_9, gR_t_10, gR_t_11, gR_t_12, gR_t_15, gR_w_2, gR_w_3, gR_w_4, gR_w_5, gR_w_6, gR_w_7, aR_crow, aR_srow, aR_prow, aR_rrow, aI_crow, sI_crow, len_crow, aI_srow, sI_srow, len_srow, aI_prow, sI_prow, len_prow, aI_rrow, sI_rrow, len_rrow, aI_t25, sI_t25, len_t25, aI_t31, sI_t31, len_t31, aI_t32, sI_t32, len_t32, aI_t34, sI_t34, len_t34, aI_t35, sI_t35, len_t35, aI_t36, sI_t36, len_t36, aI_t37, sI_t37, len_t37, aL_t38, sL_t38, len_t38, aL_t39, sL_t39, len_t39, bq_n, bd_s, mp_s, rz_0, rz_1, bI_rz, zadd, zmul, zsub, le_nI, lt_nI, eq_nI, neg_nI, gen_nI, neg_lt, neg_le, neg_lt', neg_le', nI_lt0, if_true, if_false, ite_true, ite_false, reduceIte, not_true, not_false, and_true, true_and, and_false, false_and, or_true, true_or, or_false, false_or, eq_self, hp, tr_S h, show (nS D ≤ k) = True from eq_true (by omega)]
  | succ n ih =>
    intro k fu τ L M st q hk hf hi hs hc
    obtain ⟨fu, rfl⟩ : ∃ q, fu = q + 1 := ⟨fu - 1, by omega⟩
    obtain ⟨h, hp⟩ := hs.tr h0 hp0
    have hW := h.w
    have hks : k < nS D := by omega
    have hL := hs.2.1.le
    have hqi := hs.2.1.2.2.1 i hi
    have hoi := h.t.qoth (c := q i) hks
    have r165 := hs.2.2.2.2.2.1 i hi
    have hM := hs.2.2.1
    have skip : (m.testBit k = true → tch D k (q i) → ∃ l, l < L ∧ q l = oth D k (q i)) → f_X0_orient_49 K38 (fu + 1) 163 (nI m) (nI M) (nI i) (nI k) τ = f_X0_orient_49 K38 fu 163 (nI m) (nI M) (nI i) (nI (k + 1)) τ → ∃ τ' L' M' st' q', f_X0_orient_49 K38 (fu + 1) 163 (nI m) (nI M) (nI i) (nI k) τ = K38 163 (nI m) (nI M') (nI (i + 1)) τ' ∧ i < L' ∧ OS σ τ' D m r L' M' st' q' ∧ OC D m L' (i + 1) 0 q' := by
      intro z1 z2
      rw [z2]
      exact ih (k + 1) fu τ L M st q (by omega) (by omega) hi hs (hc.stay z1)
    by_cases q1 : m.testBit k = true
    · by_cases q2 : tch D k (q i)
      · by_cases q3 : M.testBit (oth D k (q i)) = true
        · refine skip (fun _ _ => (hs.2.2.2.1 _).mp q3) ?_
          show f_X0_orient_49_b _ _ _ _ _ _ _ _ = _
          unfold f_X0_orient_49_b f_X0_orient_163
          simp only [to_bq, l_0, l_1, l_2, l_3, l_4, l_5, l_6, l_7, l_8, l_9, l_10, l_11, l_12, l_13, l_14, l_15, l_16, l_17, l_18, l_19, l_20, l_21, l_22, l_23, l_24, l_25, l_26, l_27, l_28, l_29, l_30, l_31, l_32, l_40, l_41, l_42, l_43, l_44, l_45, l_46, l_47, l_48, l_49, l_50, l_51, l_52, l_53, l_54, l_55, l_56, l_57, l_58, l_59, l_60, l_61, l_62, l_63, l_64, l_72, l_97, l_99, l_100, l_104, l_120, l_122, l_128, l_140, l_255, l_256, l_257, l_258, l_260, l_261, l_262, l_364, l_680, l_700, l_701, l_840, l_999, l_1023, l_1024, l_9999, l_10000, l_1000000, lm]
          simp (disch := first | (with_reducible assumption) | omega | exact ⟨by omega, by omega⟩ | ((with_reducible first | apply Wf.wI | apply Wf.wL | apply Wf.fL | apply Wf.fI | apply Wf.fr); (repeat (with_reducible first | assumption | apply Wf.wI | apply Wf.wL | apply Wf.fL | apply Wf.fI | apply Wf.fr)))) only [ck_163, gI_163, gL_163, pI_163, pZ0_163, pZ1_163, pL_163, gR_163_1, gR_163_2, gR_163_3, gR_163_5, gR_163_6, gR_163_7, gR_163_9, gR_163_10, gR_163_11, gR_163_12, gR_163_13, gR_163_14, gR_163_15, pR_163_17, gR_163_17, aI_165, sI_165, len_165, ck_t, gI_t, gL_t, pI_t, pZ0_t, pZ1_t, pL_t, ck_w, gI_w, gL_w, pI_w, pZ0_w, pZ1_w, pL_w, gR_t_1, gR_t_5, gR_t_7, gR_t_9, gR_t_10, gR_t_11, gR_t_12, gR_t_15, gR_w_2, gR_w_3, gR_w_4, gR_w_5, gR_w_6, gR_w_7, aR_crow, aR_srow, aR_prow, aR_rrow, aI_crow, sI_crow, len_crow, aI_srow, sI_srow, len_srow, aI_prow, sI_prow, len_prow, aI_rrow, sI_rrow, len_rrow, aI_t25, sI_t25, len_t25, aI_t31, sI_t31, len_t31, aI_t32, sI_t32, len_t32, aI_t34, sI_t34, len_t34, aI_t35, sI_t35, len_t35, aI_t36, sI_t36, len_t36, aI_t37, sI_t37, len_t37, aL_t38, sL_t38, len_t38, aL_t39, sL_t39, len_t39, bq_n, bd_s, mp_s, rz_0, rz_1, bI_rz, zadd, zmul, zsub, le_nI, lt_nI, eq_nI, neg_nI, gen_nI, neg_lt, neg_le, neg_lt', neg_le', nI_lt0, if_true, if_false, ite_true, ite_false, reduceIte, not_true, not_false, and_true, true_and, and_false, false_and, or_true, true_or, or_false, false_or, eq_self, hp, tr_S h, show (nS D ≤ k) = False from eq_false (by omega), z_bit (show m < 2147483648 by omega) (show k < 31 by omega), q1, r165, c_touches h hks (show q i < 7 by omega), bI_0, ite_n, show (sA D k = q i ∨ sB D k = q i) = True from eq_true q2, c_otherEnd h hks (show q i < 7 by omega), z_bit (show M < 2147483648 by omega) (show oth D k (q i) < 31 by omega), q3]
        · have hn' : ¬ ∃ j, j < L ∧ q j = oth D k (q i) := fun z => q3 ((hs.2.2.2.1 _).mpr z)
          have hL2 := hs.2.1.lt hoi hn'
          obtain ⟨o1, o2⟩ := oth_tch q2
          have e4 := hs.2.2.2.2.1
          have hs' := hs.add b2 hoi q3 hks q1 o2 hi o1.symm
          have he : f_X0_orient_49 K38 (fu + 1) 163 (nI m) (nI M) (nI i) (nI k) τ = f_X0_orient_49 K38 fu 163 (nI m) (nI (M ||| 2 ^ oth D k (q i))) (nI i) (nI (k + 1)) (ah_wI (ah_wI (ah_wI τ 164 (oth D k (q i)) (nI k)) 165 L (nI (oth D k (q i)))) 163 4 (nI (L + 1))) := by
            show f_X0_orient_49_b _ _ _ _ _ _ _ _ = _
            unfold f_X0_orient_49_b f_X0_orient_163
            simp only [to_bq, l_0, l_1, l_2, l_3, l_4, l_5, l_6, l_7, l_8, l_9, l_10, l_11, l_12, l_13, l_14, l_15, l_16, l_17, l_18, l_19, l_20, l_21, l_22, l_23, l_24, l_25, l_26, l_27, l_28, l_29, l_30, l_31, l_32, l_40, l_41, l_42, l_43, l_44, l_45, l_46, l_47, l_48, l_49, l_50, l_51, l_52, l_53, l_54, l_55, l_56, l_57, l_58, l_59, l_60, l_61, l_62, l_63, l_64, l_72, l_97, l_99, l_100, l_104, l_120, l_122, l_128, l_140, l_255, l_256, l_257, l_258, l_260, l_261, l_262, l_364, l_680, l_700, l_701, l_840, l_999, l_1023, l_1024, l_9999, l_10000, l_1000000, lm]
            simp (disch := first | (with_reducible assumption) | omega | exact ⟨by omega, by omega⟩ | ((with_reducible first | apply Wf.wI | apply Wf.wL | apply Wf.fL | apply Wf.fI | apply Wf.fr); (repeat (with_reducible first | assumption | apply Wf.wI | apply Wf.wL | apply Wf.fL | apply Wf.fI | apply Wf.fr)))) only [ck_163, gI_163, gL_163, pI_163, pZ0_163, pZ1_163, pL_163, gR_163_1, gR_163_2, gR_163_3, gR_163_5, gR_163_6, gR_163_7, gR_163_9, gR_163_10, gR_163_11, gR_163_12, gR_163_13, gR_163_14, gR_163_15, pR_163_17, gR_163_17, aI_165, sI_165, len_165, aI_164, sI_164, len_164, ck_t, gI_t, gL_t, pI_t, pZ0_t, pZ1_t, pL_t, ck_w, gI_w, gL_w, pI_w, pZ0_w, pZ1_w, pL_w, gR_t_1, gR_t_5, gR_t_7, gR_t_9, gR_t_10, gR_t_11, gR_t_12, gR_t_15, gR_w_2, gR_w_3, gR_w_4, gR_w_5, gR_w_6, gR_w_7, aR_crow, aR_srow, aR_prow, aR_rrow, aI_crow, sI_crow, len_crow, aI_srow, sI_srow, len_srow, aI_prow, sI_prow, len_prow, aI_rrow, sI_rrow, len_rrow, aI_t25, sI_t25, len_t25, aI_t31, sI_t31, len_t31, aI_t32, sI_t32, len_t32, aI_t34, sI_t34, len_t34, aI_t35, sI_t35, len_t35, aI_t36, sI_t36, len_t36, aI_t37, sI_t37, len_t37, aL_t38, sL_t38, len_t38, aL_t39, sL_t39, len_t39, bq_n, bd_s, mp_s, rz_0, rz_1, bI_rz, zadd, zmul, zsub, le_nI, lt_nI, eq_nI, neg_nI, gen_nI, neg_lt, neg_le, neg_lt', neg_le', nI_lt0, if_true, if_false, ite_true, ite_false, reduceIte, not_true, not_false, and_true, true_and, and_false, false_and, or_true, true_or, or_false, false_or, eq_self, hp, tr_S h, show (nS D ≤ k) = False from eq_false (by omega), z_bit (show m < 2147483648 by omega) (show k < 31 by omega), q1, r165, c_touches h hks (show q i < 7 by omega), bI_0, ite_n, show (sA D k = q i ∨ sB D k = q i) = True from eq_true q2, c_otherEnd h hks (show q i < 7 by omega), z_bit (show M < 2147483648 by omega) (show oth D k (q i) < 31 by omega), q3, e4, show (7 ≤ L) = False from eq_false (by omega), rI_ne, rI_eq, rL_ne, rL_eq, ah_I_wL, ah_L_wI, ah_R_wI, ah_R_wL, ah_I_wR, ah_L_wR, rR_ne, rR_eq, z_set (show oth D k (q i) < 31 by omega)]
            rw [if_neg (by intro z; cases z)]
          rw [he]
          refine ih (k + 1) fu _ (L + 1) _ _ _ (by omega) (by omega) (by omega) hs' ((hc.add hi).stay (fun _ _ => ⟨L, by omega, ?_⟩))
          rw [qap_e, qap_n (by omega)]
      · refine skip (fun _ z => absurd z q2) ?_
        show f_X0_orient_49_b _ _ _ _ _ _ _ _ = _
        unfold f_X0_orient_49_b f_X0_orient_163
        simp only [to_bq, l_0, l_1, l_2, l_3, l_4, l_5, l_6, l_7, l_8, l_9, l_10, l_11, l_12, l_13, l_14, l_15, l_16, l_17, l_18, l_19, l_20, l_21, l_22, l_23, l_24, l_25, l_26, l_27, l_28, l_29, l_30, l_31, l_32, l_40, l_41, l_42, l_43, l_44, l_45, l_46, l_47, l_48, l_49, l_50, l_51, l_52, l_53, l_54, l_55, l_56, l_57, l_58, l_59, l_60, l_61, l_62, l_63, l_64, l_72, l_97, l_99, l_100, l_104, l_120, l_122, l_128, l_140, l_255, l_256, l_257, l_258, l_260, l_261, l_262, l_364, l_680, l_700, l_701, l_840, l_999, l_1023, l_1024, l_9999, l_10000, l_1000000, lm]
        simp (disch := first | (with_reducible assumption) | omega | exact ⟨by omega, by omega⟩ | ((with_reducible first | apply Wf.wI | apply Wf.wL | apply Wf.fL | apply Wf.fI | apply Wf.fr); (repeat (with_reducible first | assumption | apply Wf.wI | apply Wf.wL | apply Wf.fL | apply Wf.fI | apply Wf.fr)))) only [ck_163, gI_163, gL_163, pI_163, pZ0_163, pZ1_163, pL_163, gR_163_1, gR_163_2, gR_163_3, gR_163_5, gR_163_6, gR_163_7, gR_163_9, gR_163_10, gR_163_11, gR_163_12, gR_163_13, gR_163_14, gR_163_15, pR_163_17, gR_163_17, aI_165, sI_165, len_165, ck_t, gI_t, gL_t, pI_t, pZ0_t, pZ1_t, pL_t, ck_w, gI_w, gL_w, pI_w, pZ0_w, pZ1_w, pL_w, gR_t_1, gR_t_5, gR_t_7, gR_t_9, gR_t_10, gR_t_11, gR_t_12, gR_t_15, gR_w_2, gR_w_3, gR_w_4, gR_w_5, gR_w_6, gR_w_7, aR_crow, aR_srow, aR_prow, aR_rrow, aI_crow, sI_crow, len_crow, aI_srow, sI_srow, len_srow, aI_prow, sI_prow, len_prow, aI_rrow, sI_rrow, len_rrow, aI_t25, sI_t25, len_t25, aI_t31, sI_t31, len_t31, aI_t32, sI_t32, len_t32, aI_t34, sI_t34, len_t34, aI_t35, sI_t35, len_t35, aI_t36, sI_t36, len_t36, aI_t37, sI_t37, len_t37, aL_t38, sL_t38, len_t38, aL_t39, sL_t39, len_t39, bq_n, bd_s, mp_s, rz_0, rz_1, bI_rz, zadd, zmul, zsub, le_nI, lt_nI, eq_nI, neg_nI, gen_nI, neg_lt, neg_le, neg_lt', neg_le', nI_lt0, if_true, if_false, ite_true, ite_false, reduceIte, not_true, not_false, and_true, true_and, and_false, false_and, or_true, true_or, or_false, false_or, eq_self, hp, tr_S h, show (nS D ≤ k) = False from eq_false (by omega), z_bit (show m < 2147483648 by omega) (show k < 31 by omega), q1, r165, c_touches h hks (show q i < 7 by omega), bI_0, ite_n, show (sA D k = q i ∨ sB D k = q i) = False from eq_false q2]
    · refine skip (fun z => absurd z q1) ?_
      show f_X0_orient_49_b _ _ _ _ _ _ _ _ = _
      unfold f_X0_orient_49_b f_X0_orient_163
      simp only [to_bq, l_0, l_1, l_2, l_3, l_4, l_5, l_6, l_7, l_8, l_9, l_10, l_11, l_12, l_13, l_14, l_15, l_16, l_17, l_18, l_19, l_20, l_21, l_22, l_23, l_24, l_25, l_26, l_27, l_28, l_29, l_30, l_31, l_32, l_40, l_41, l_42, l_43, l_44, l_45, l_46, l_47, l_48, l_49, l_50, l_51, l_52, l_53, l_54, l_55, l_56, l_57, l_58, l_59, l_60, l_61, l_62, l_63, l_64, l_72, l_97, l_99, l_100, l_104, l_120, l_122, l_128, l_140, l_255, l_256, l_257, l_258, l_260, l_261, l_262, l_364, l_680, l_700, l_701, l_840, l_999, l_1023, l_1024, l_9999, l_10000, l_1000000, lm]
      simp (disch := first | (with_reducible assumption) | omega | exact ⟨by omega, by omega⟩ | ((with_reducible first | apply Wf.wI | apply Wf.wL | apply Wf.fL | apply Wf.fI | apply Wf.fr); (repeat (with_reducible first | assumption | apply Wf.wI | apply Wf.wL | apply Wf.fL | apply Wf.fI | apply Wf.fr)))) only [ck_163, gI_163, gL_163, pI_163, pZ0_163, pZ1_163, pL_163, gR_163_1, gR_163_2, gR_163_3, gR_163_5, gR_163_6, gR_163_7, gR_163_9, gR_163_10, gR_163_11, gR_163_12, gR_163_13, gR_163_14, gR_163_15, pR_163_17, gR_163_17, ck_t, gI_t, gL_t, pI_t, pZ0_t, pZ1_t, pL_t, ck_w, gI_w, gL_w, pI_w, pZ0_w, pZ1_w, pL_w, gR_t_1, gR_t_5, gR_t_7, gR_t_9, gR_t_10, gR_t_11, gR_t_12, gR_t_15, gR_w_2, gR_w_3, gR_w_4, gR_w_5, gR_w_6, gR_w_7, aR_crow, aR_srow, aR_prow, aR_rrow, aI_crow, sI_crow, len_crow, aI_srow, sI_srow, len_srow, aI_prow, sI_prow, len_prow, aI_rrow, sI_rrow, len_rrow, aI_t25, sI_t25, len_t25, aI_t31, sI_t31, len_t31, aI_t32, sI_t32, len_t32, aI_t34, sI_t34, len_t34, aI_t35, sI_t35, len_t35, aI_t36, sI_t36, len_t36, aI_t37, sI_t37, len_t37, aL_t38, sL_t38, len_t38, aL_t39, sL_t39, len_t39, bq_n, bd_s, mp_s, rz_0, rz_1, bI_rz, zadd, zmul, zsub, le_nI, lt_nI, eq_nI, neg_nI, gen_nI, neg_lt, neg_le, neg_lt', neg_le', nI_lt0, if_true, if_false, ite_true, ite_false, reduceIte, not_true, not_false, and_true, true_and, and_false, false_and, or_true, true_or, or_false, false_or, eq_self, hp, tr_S h, show (nS D ≤ k) = False from eq_false (by omega), z_bit (show m < 2147483648 by omega) (show k < 31 by omega)]
      rw [if_pos q1]
theorem c_or38 (h0 : TR σ t D) (hp0 : ah_R σ 163 17 = some t) (hm : m < 1024) : ∀ n i fu τ L M st q, i + n = nC D → n < fu → i ≤ L → OS σ τ D m r L M st q → OC D m L i 0 q → ∃ τ' L' M' st' q', f_X0_orient_38 fu 163 (nI m) (nI M) (nI i) τ = some τ' ∧ OS σ τ' D m r L' M' st' q' ∧ OC D m L' L' 0 q' := by
  have htn := h0.tn
  have b2 := h0.t.qc7
  have fin : ∀ fu τ L M st q, OS σ τ D m r L M st q → OC D m L L 0 q → ∃ τ' L' M' st' q', f_X0_orient_38 (fu + 1) 163 (nI m) (nI M) (nI L) τ = some τ' ∧ OS σ τ' D m r L' M' st' q' ∧ OC D m L' L' 0 q' := by
    intro fu τ L M st q hs hc
    obtain ⟨h, hp⟩ := hs.tr h0 hp0
    have hW := h.w
    have e4 := hs.2.2.2.2.1
    have hL := hs.2.1.le
    refine ⟨τ, L, M, st, q, ?_, hs, hc⟩
    show f_X0_orient_38_b _ _ _ _ _ _ = _
    unfold f_X0_orient_38_b
    simp only [to_bq, l_0, l_1, l_2, l_3, l_4, l_5, l_6, l_7, l_8, l_9, l_10, l_11, l_12, l_13, l_14, l_15, l_16, l_17, l_18, l_19, l_20, l_21, l_22, l_23, l_24, l_25, l_26, l_27, l_28, l_29, l_30, l_31, l_32, l_40, l_41, l_42, l_43, l_44, l_45, l_46, l_47, l_48, l_49, l_50, l_51, l_52, l_53, l_54, l_55, l_56, l_57, l_58, l_59, l_60, l_61, l_62, l_63, l_64, l_72, l_97, l_99, l_100, l_104, l_120, l_122, l_128, l_140, l_255, l_256, l_257, l_258, l_260, l_261, l_262, l_364, l_680, l_700, l_701, l_840, l_999, l_1023, l_1024, l_9999, l_10000, l_1000000, lm]
    simp (disch := first | (with_reducible assumption) | omega | exact ⟨by omega, by omega⟩ | ((with_reducible first | apply Wf.wI | apply Wf.wL | apply Wf.fL | apply Wf.fI | apply Wf.fr); (repeat (with_reducible first | assumption | apply Wf.wI | apply Wf.wL | apply Wf.fL | apply Wf.fI | apply Wf.fr)))) only [ck_163, gI_163, gL_163, pI_163, pZ0_163, pZ1_163, pL_163, gR_163_1, gR_163_2, gR_163_3, gR_163_5, gR_163_6, gR_163_7, gR_163_9, gR_163_10, gR_163_11, gR_163_12, gR_163_13, gR_163_14, gR_163_15, pR_163_17, gR_163_17, bq_n, bd_s, mp_s, rz_0, rz_1, bI_rz, zadd, zmul, zsub, le_nI, lt_nI, eq_nI, neg_nI, gen_nI, neg_lt, neg_le, neg_lt', neg_le', nI_lt0, if_true, if_false, ite_true, ite_false, reduceIte, not_true, not_false, and_true, true_and, and_false, false_and, or_true, true_or, or_false, false_or, eq_self, e4, Nat.le_refl]
  intro n
  induction n with
  | zero =>
    intro i fu τ L M st q hi hf hiL hs hc
    obtain ⟨fu, rfl⟩ : ∃ q, fu = q + 1 := ⟨fu - 1, by omega⟩
    have hL := hs.2.1.le
    obtain rfl : i = L := by omega
    exact fin fu τ i M st q hs hc
  | succ n ih =>
    intro i fu τ L M st q hi hf hiL hs hc
    obtain ⟨fu, rfl⟩ : ∃ q, fu = q + 1 := ⟨fu - 1, by omega⟩
    by_cases z : i = L
    · subst z; exact fin fu τ i M st q hs hc
    obtain ⟨h, hp⟩ := hs.tr h0 hp0
    have hW := h.w
    have e4 := hs.2.2.2.2.1
    have hL := hs.2.1.le
    obtain ⟨τ', L', M', st', q', e1, e2, e3, e5⟩ := c_or49 (K38 := f_X0_orient_38 fu) (i := i) h0 hp0 hm (nS D) 0 5000 τ L M st q (by omega) (by have := h0.t.qs10; omega) (by omega) hs hc
    have he : f_X0_orient_38 (fu + 1) 163 (nI m) (nI M) (nI i) τ = f_X0_orient_49 (f_X0_orient_38 fu) 5000 163 (nI m) (nI M) (nI i) (nI 0) τ := by
      show f_X0_orient_38_b _ _ _ _ _ _ = _
      unfold f_X0_orient_38_b
      simp only [to_bq, l_0, l_1, l_2, l_3, l_4, l_5, l_6, l_7, l_8, l_9, l_10, l_11, l_12, l_13, l_14, l_15, l_16, l_17, l_18, l_19, l_20, l_21, l_22, l_23, l_24, l_25, l_26, l_27, l_28, l_29, l_30, l_31, l_32, l_40, l_41, l_42, l_43, l_44, l_45, l_46, l_47, l_48, l_49, l_50, l_51, l_52, l_53, l_54, l_55, l_56, l_57, l_58, l_59, l_60, l_61, l_62, l_63, l_64, l_72, l_97, l_99, l_100, l_104, l_120, l_122, l_128, l_140, l_255, l_256, l_257, l_258, l_260, l_261, l_262, l_364, l_680, l_700, l_701, l_840, l_999, l_1023, l_1024, l_9999, l_10000, l_1000000, lm]
      simp (disch := first | (with_reducible assumption) | omega | exact ⟨by omega, by omega⟩ | ((with_reducible first | apply Wf.wI | apply Wf.wL | apply Wf.fL | apply Wf.fI | apply Wf.fr); (repeat (with_reducible first | assumption | apply Wf.wI | apply Wf.wL | apply Wf.fL | apply Wf.fI | apply Wf.fr)))) only [ck_163, gI_163, gL_163, pI_163, pZ0_163, pZ1_163, pL_163, gR_163_1, gR_163_2, gR_163_3, gR_163_5, gR_163_6, gR_163_7, gR_163_9, gR_163_10, gR_163_11, gR_163_12, gR_163_13, gR_163_14, gR_163_15, pR_163_17, gR_163_17, bq_n, bd_s, mp_s, rz_0, rz_1, bI_rz, zadd, zmul, zsub, le_nI, lt_nI, eq_nI, neg_nI, gen_nI, neg_lt, neg_le, neg_lt', neg_le', nI_lt0, if_true, if_false, ite_true, ite_false, reduceIte, not_true, not_false, and_true, true_and, and_false, false_and, or_true, true_or, or_false, false_or, eq_self, e4, show (L ≤ i) = False from eq_false (by omega)]
    rw [he, e1]
    exact ih (i + 1) fu τ' L' M' st' q' (by omega) (by omega) (by omega) e3 e5
/-- a tree turned to the river -/
theorem c_orient (h : TR σ t D) (hp : ah_R σ 163 17 = some t) (hr : D 227 4 ≠ mI 1) (hm : TrQ D m) : ∃ τ q, f_X0_orient 163 (nI m) σ = some τ ∧ Fr Xot σ τ ∧ OQ D m (riv D) (nC D) (ost D m) q ∧ ah_I τ 163 4 = nI (nC D) ∧ (∀ j, j < nC D → ah_I τ 165 j = nI (q j)) ∧ (∀ c, c < 7 → ah_I τ 164 c = sv (ost D m c)) ∧ OrS D m (ost D m) := by
  have htn := h.tn
  have hW := h.w
  have b2 := h.t.qc7
  have h2 := p2S h.t
  have hm1 := hm.1
  obtain ⟨r1, r2, r3, r4⟩ := h.t.rv hr
  have hrv := tr_riv h
  rw [r1] at hrv
  have f1 : Fr Xot σ (ah_fI σ 164 0 7 (mI 1)) := (Fr.rfl (X := Xot) (σ := σ)).fI (fun j _ _ => Or.inl rfl)
  have os : OS σ (ah_wI (ah_wI (ah_fI σ 164 0 7 (mI 1)) 165 0 (nI (riv D))) 163 4 (nI 1)) D m (riv D) 1 (2 ^ riv D) (fun _ => none) (fun _ => riv D) := by
    refine ⟨(f1.wI (Or.inr (Or.inl rfl))).wI (Or.inr (Or.inr ⟨rfl, rfl⟩)), ⟨by omega, rfl, fun j _ => r2, fun i j hi hj _ => by omega, fun _ _ => rfl, fun j h1 h2 => by omega⟩, pw_b (k := 10) (by omega), fun c => ?_, rI_eq, fun j hj => ?_, fun c hc => ?_⟩
    · rw [Nat.testBit_two_pow]
      constructor
      · intro z; exact ⟨0, by omega, by simpa using z⟩
      · rintro ⟨j, -, z⟩; simpa using z
    · rw [rI_ne (by omega), show j = 0 by omega, rI_eq]
    · rw [rI_ne (by omega), rI_ne (by omega), I_fI, if_pos ⟨rfl, by omega, hc⟩]; rfl
  obtain ⟨τ', L', M', st', q', e1, e2, e3⟩ := c_or38 h hp (by omega) (nC D) 0 5000 _ 1 _ _ _ (by omega) (by omega) (by omega) os ⟨fun j hj => by omega, fun s hs => by omega⟩
  have hcl : ∀ c, c < nC D → ∃ j, j < L' ∧ q' j = c := by
    intro c hc
    refine Ujn_cl (D := D) (m := m) (x := riv D) (P := fun c => ∃ j, j < L' ∧ q' j = c) ⟨0, by have := e2.2.1.1; omega, e2.2.1.2.1⟩ (fun s c h1 h2 h3 ⟨j, h4, h5⟩ => ?_) (hm.from r2 c hc)
    obtain ⟨o1, o2⟩ := oth_tch h3
    obtain ⟨l, l1, l2⟩ := e3.1 j h4 s h1 h2 (by rw [h5]; exact o2)
    exact ⟨l, l1, by rw [l2, h5, o1]⟩
  have hLe := e2.2.1.le
  have hL : L' = nC D := by
    apply Classical.byContradiction
    intro z
    -- the places of the corners would clash
    have hpos : ∀ c, c ≤ L' → ∃ j, j < L' ∧ q' j = c := fun c hc => hcl c (by omega)
    obtain ⟨i, j, g1, g2, g3⟩ := php L' (fun c => if hc : c ≤ L' then Classical.choose (hpos c hc) else 0) (fun i hi => by
      show (if hc : i ≤ L' then Classical.choose (hpos i hc) else 0) < L'
      rw [dif_pos hi]; exact (Classical.choose_spec (hpos i hi)).1)
    have g3 : (if hc : i ≤ L' then Classical.choose (hpos i hc) else 0) = (if hc : j ≤ L' then Classical.choose (hpos j hc) else 0) := g3
    rw [dif_pos (show i ≤ L' by omega), dif_pos g2] at g3
    have s1 := (Classical.choose_spec (hpos i (by omega))).2
    have s2 := (Classical.choose_spec (hpos j g2)).2
    rw [g3] at s1
    rw [s1] at s2
    omega
  subst hL
  have hrq : st' (riv D) = none := e2.2.1.2.2.2.2.1 _ (fun ⟨j, z1, z2, z3⟩ => by
    have := e2.2.1.2.2.2.1 j 0 z2 (by omega) (by rw [z3, e2.2.1.2.1])
    omega)
  have hrt : ∀ k j, j ≤ k → j < nC D → Rt (nx D st') (riv D) (q' j) := by
    intro k
    induction k with
    | zero => intro j hj _; rw [show j = 0 by omega, e2.2.1.2.1]; exact ⟨0, rfl⟩
    | succ k ih =>
      intro j hj hjn
      by_cases z : j = 0
      · rw [z, e2.2.1.2.1]; exact ⟨0, rfl⟩
      · obtain ⟨s, z1, z2, z3, z4, i, z5, z6⟩ := e2.2.1.2.2.2.2.2 j (by omega) hjn
        obtain ⟨l, hl⟩ := ih i (by omega) (by omega)
        refine ⟨l + 1, ?_⟩
        show (nx D st' (q' j)).bind (itn (nx D st') l) = _
        have : nx D st' (q' j) = some (q' i) := by unfold nx; rw [z1, z6]; rfl
        rw [this]; exact hl
  have hos : OrS D m st' := by
    refine ⟨⟨fun c hc hcr => ?_, hrq, r2, fun c hc => ?_⟩, fun c hc => ?_⟩
    · obtain ⟨j, j1, j2⟩ := hcl c hc
      have : j ≠ 0 := fun z => hcr (by rw [← j2, z, e2.2.1.2.1])
      obtain ⟨s, z1, z2, z3, z4, -⟩ := e2.2.1.2.2.2.2.2 j (by omega) j1
      rw [j2] at z1 z4
      exact ⟨s, z1, z2, z3, z4⟩
    · obtain ⟨j, j1, j2⟩ := hcl c hc
      rw [← j2]; exact hrt j j (Nat.le_refl _) j1
    · exact e2.2.1.2.2.2.2.1 c (fun ⟨j, _, z2, z3⟩ => by have := e2.2.1.2.2.1 j z2; omega)
  have hst := ost_eq h.t hm hos
  rw [← hst]
  refine ⟨τ', q', ?_, e2.1, e2.2.1, e2.2.2.2.2.1, e2.2.2.2.2.2.1, e2.2.2.2.2.2.2, hos⟩
  unfold f_X0_orient f_X0_orient_0
  simp only [to_bq, l_0, l_1, l_2, l_3, l_4, l_5, l_6, l_7, l_8, l_9, l_10, l_11, l_12, l_13, l_14, l_15, l_16, l_17, l_18, l_19, l_20, l_21, l_22, l_23, l_24, l_25, l_26, l_27, l_28, l_29, l_30, l_31, l_32, l_40, l_41, l_42, l_43, l_44, l_45, l_46, l_47, l_48, l_49, l_50, l_51, l_52, l_53, l_54, l_55, l_56, l_57, l_58, l_59, l_60, l_61, l_62, l_63, l_64, l_72, l_97, l_99, l_100, l_104, l_120, l_122, l_128, l_140, l_255, l_256, l_257, l_258, l_260, l_261, l_262, l_364, l_680, l_700, l_701, l_840, l_999, l_1023, l_1024, l_9999, l_10000, l_1000000, lm]
  have hg2 : ah_I (ah_fI σ 164 0 7 (mI 1)) t 2 = nI (riv D) := by rw [I_fI, if_neg (by rcases htn with z | z <;> omega)]; exact hrv
  have hg3 : ah_R (ah_fI σ 164 0 7 (mI 1)) 163 17 = some t := by rw [R_fI]; exact hp
  have ne1 : t ≠ 165 := by rcases htn with z | z <;> omega
  have ne2 : t ≠ 163 := by rcases htn with z | z <;> omega
  have hWf : Wf (ah_fI σ 164 0 7 (mI 1)) := hW.fI _ _ _ _
  rw [ck_163 hW, gR_163_1 hW, bq_n, c_fillI (mI 1) hW S0_164 (by decide), bq_n]
  simp (disch := first | (with_reducible assumption) | omega | exact ⟨by omega, by omega⟩ | ((with_reducible first | apply Wf.wI | apply Wf.wL | apply Wf.fL | apply Wf.fI | apply Wf.fr); (repeat (with_reducible first | assumption | apply Wf.wI | apply Wf.wL | apply Wf.fL | apply Wf.fI | apply Wf.fr)))) only [ck_163, gI_163, gL_163, pI_163, pZ0_163, pZ1_163, pL_163, gR_163_1, gR_163_2, gR_163_3, gR_163_5, gR_163_6, gR_163_7, gR_163_9, gR_163_10, gR_163_11, gR_163_12, gR_163_13, gR_163_14, gR_163_15, pR_163_17, gR_163_17, aI_165, sI_165, len_165, ck_t, gI_t, gL_t, pI_t, pZ0_t, pZ1_t, pL_t, ck_w, gI_w, gL_w, pI_w, pZ0_w, pZ1_w, pL_w, gR_t_1, gR_t_5, gR_t_7, gR_t_9, gR_t_10, gR_t_11, gR_t_12, gR_t_15, gR_w_2, gR_w_3, gR_w_4, gR_w_5, gR_w_6, gR_w_7, aR_crow, aR_srow, aR_prow, aR_rrow, aI_crow, sI_crow, len_crow, aI_srow, sI_srow, len_srow, aI_prow, sI_prow, len_prow, aI_rrow, sI_rrow, len_rrow, aI_t25, sI_t25, len_t25, aI_t31, sI_t31, len_t31, aI_t32, sI_t32, len_t32, aI_t34, sI_t34, len_t34, aI_t35, sI_t35, len_t35, aI_t36, sI_t36, len_t36, aI_t37, sI_t37, len_t37, aL_t38, sL_t38, len_t38, aL_t39, sL_t39, len_t39, bq_n, bd_s, mp_s, rz_0, rz_1, bI_rz, rI_ne, rI_eq, rL_ne, rL_eq, ah_I_wL, ah_L_wI, ah_R_wI, ah_R_wL, ah_I_wR, ah_L_wR, rR_ne, rR_eq, hg2, hg3, z_one (show riv D < 31 by omega), ne1, ne2]
  exact e1
end
