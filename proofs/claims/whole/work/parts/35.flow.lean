/-! FLOWS: the reference's rings, and one corner's flow -/
noncomputable def cif {α : Type} (p : Prop) (a b : α) : α := @ite α p (Classical.propDecidable p) a b
theorem cif_t {α : Type} {p : Prop} (h : p) (a b : α) : cif p a b = a := by unfold cif; exact if_pos h
theorem cif_f {α : Type} {p : Prop} (h : ¬ p) (a b : α) : cif p a b = b := by unfold cif; exact if_neg h
/-- truths as ints, of any statement -/
noncomputable def cI (p : Prop) : Int32 := cif p (nI 1) (nI 0)
theorem cI_t {p : Prop} (h : p) : cI p = nI 1 := cif_t h _ _
theorem cI_f {p : Prop} (h : ¬ p) : cI p = nI 0 := cif_f h _ _
theorem bI_c (p : Prop) [Decidable p] : bI p = cI p := by
  unfold bI
  by_cases h : p
  · rw [if_pos h, cI_t h]
  · rw [if_neg h, cI_f h]
theorem cI_0 (p : Prop) : (cI p = nI 0) = ¬ p := by
  by_cases h : p
  · rw [cI_t h]; exact propext ⟨fun q => absurd q (by decide), fun q => absurd h q⟩
  · rw [cI_f h]; exact propext ⟨fun _ => h, fun _ => rfl⟩
theorem cI_rz (p : Prop) : op_rz (cI p) = some (cI p) := by
  by_cases h : p
  · rw [cI_t h]; rfl
  · rw [cI_f h]; rfl
theorem cI_eq {p q : Prop} (h : p ↔ q) : cI p = cI q := by rw [propext h]
def rgo (nx : Nat → Option Nat) (c : Nat) : Nat → Nat → Prop
  | 0, _ => False
  | m + 1, x => match nx x with
    | none => False
    | some y => y = c ∨ rgo nx c m y
theorem rgo_i {nx : Nat → Option Nat} {c : Nat} : ∀ m x, rgo nx c m x ↔ ∃ k, k < m ∧ itn nx (k + 1) x = some c := by
  intro m
  induction m with
  | zero => intro x; exact ⟨fun h => h.elim, fun ⟨k, hk, _⟩ => by omega⟩
  | succ m ih =>
    intro x
    unfold rgo
    cases hx : nx x with
    | none =>
      refine ⟨fun h => h.elim, fun ⟨k, hk, e⟩ => ?_⟩
      have e : (nx x).bind (itn nx k) = some c := e
      rw [hx] at e
      cases e
    | some y =>
      constructor
      · rintro (rfl | h)
        · exact ⟨0, by omega, by rw [itn_1]; exact hx⟩
        · obtain ⟨k, hk, e⟩ := (ih y).mp h
          refine ⟨k + 1, by omega, ?_⟩
          show (nx x).bind (itn nx (k + 1)) = some c
          rw [hx]
          exact e
      · rintro ⟨k, hk, e⟩
        have e : (nx x).bind (itn nx k) = some c := e
        rw [hx] at e
        cases k with
        | zero => exact Or.inl (Option.some.inj e)
        | succ k => exact Or.inr ((ih y).mpr ⟨k, by omega, e⟩)
def atf (c r t : Nat) : Nat := (c * 4 + r) * 30 + t
def hr (D : DD) (st : Nat → Option Nat) (o : Nat) : Nat := match st o with
  | some s => hrs D s
  | none => 0
/-- what rains on a corner -/
def ra (D : DD) (r c t : Nat) : Nat := if t < rnh D r then are D c * rnv D r t else 0
theorem oth_ne {D : DD} (s c : Nat) (h : sA D s ≠ sB D s) : oth D s c ≠ c := by
  unfold oth
  split
  · next q => rw [← q]; exact fun r => h r.symm
  · next q => exact q
section
variable {σ : ah_H} {D : DD} {e : Nat} {st : Nat → Option Nat}
theorem StR.nxl (ht : MT D) (hs : StR σ D e st) : ∀ c k, c < nC D → nx D st c = some k → k < nC D := fun c _ hc hx => nx_lt ht (hs.2.2 c hc).2 hx
theorem StR.nxn (ht : MT D) (hs : StR σ D e st) {c : Nat} (hc : c < nC D) : nx D st c ≠ some c := by
  unfold nx
  cases hx : st c with
  | none => intro q; cases q
  | some s =>
    intro q
    have q : oth D s c = c := Option.some.inj q
    exact oth_ne s c (ht.qsAB ((hs.2.2 c hc).2 s hx)) q
theorem m_isRing4 (h : MInv σ D) (hs : StR σ D e st) {c : Nat} (hc : c < nC D) : ∀ m k fu x, k + m = nC D → m < fu → x < nC D → f_X12_isRing_4 fu 225 (nI c) (nI x) (nI k) σ = some (cI (rgo (nx D st) c m x), σ) := by
  have hw := h.w
  have b1 := h.bd
  intro m
  induction m with
  | zero =>
    intro k fu x hk hf hx
    obtain ⟨fu, rfl⟩ : ∃ q, fu = q + 1 := ⟨fu - 1, by omega⟩
    show f_X12_isRing_4_b _ _ _ _ _ _ = _
    unfold f_X12_isRing_4_b
    simp only [to_bq, l_0, l_1, l_2, l_3, l_4, l_5, l_6, l_7, l_8, l_9, l_10, l_11, l_12, l_13, l_14, l_15, l_16, l_17, l_18, l_19, l_20, l_21, l_22, l_23, l_24, l_25, l_26, l_27, l_28, l_29, l_30, l_31, l_32, l_40, l_41, l_42, l_43, l_44, l_45, l_46, l_47, l_48, l_49, l_50, l_51, l_52, l_53, l_54, l_55, l_56, l_57, l_58, l_59, l_60, l_61, l_62, l_63, l_64, l_72, l_97, l_99, l_100, l_104, l_120, l_122, l_128, l_140, l_255, l_256, l_257, l_258, l_260, l_261, l_262, l_364, l_680, l_700, l_701, l_840, l_999, l_1023, l_1024, l_9999, l_10000, l_1000000, lm]
    simp (disch := first | (with_reducible assumption) | omega | exact ⟨by omega, by omega⟩ | ((with_reducible first | apply Wf.wI | apply Wf.wL | apply Wf.fr); (repeat (with_reducible first | assumption | apply Wf.wI | apply Wf.wL | apply Wf.fr)))) only [ck_225, gI_225, gL_225, pI_225, pZ0_225, pZ1_225, pL_225, gR_225_1, gR_225_3, gR_225_4, gR_225_5, gR_225_6, gR_225_7, gR_225_8, gR_225_9, gR_225_10, gR_225_11, gR_225_12, gR_225_13, gR_225_14, gR_225_15, gR_225_16, gR_225_17, gR_225_18, gR_225_19, gR_225_20, gR_225_21, gR_225_35, gR_225_36, gR_225_38, gR_225_39, gR_225_40, gR_225_41, gR_225_43, gR_225_44, gR_225_45, gR_225_48, gR_225_49, gR_225_50, gR_225_51, gR_225_53, gR_225_54, gR_225_55, gR_225_56, gR_225_58, gR_225_59, gR_225_60, gR_225_61, gR_225_62, gR_225_63, gR_225_66, gR_225_67, bq_s, bd_s, mp_s, rz_0, rz_1, bI_rz, zadd, zmul, zsub, le_nI, lt_nI, eq_nI, neg_nI, gen_nI, neg_lt, neg_le, neg_lt', neg_le', nI_lt0, if_true, if_false, ite_true, ite_false, reduceIte, not_true, not_false, and_true, true_and, and_false, false_and, or_true, true_or, or_false, false_or, eq_self, aI_227, rd_C h, show (nC D ≤ k) = True from eq_true (by omega)]
    rw [cI_f (show ¬ rgo (nx D st) c 0 x from fun q => q)]
  | succ m ih =>
    intro k fu x hk hf hx
    obtain ⟨fu, rfl⟩ : ∃ q, fu = q + 1 := ⟨fu - 1, by omega⟩
    show f_X12_isRing_4_b _ _ _ _ _ _ = _
    unfold f_X12_isRing_4_b
    simp only [to_bq, l_0, l_1, l_2, l_3, l_4, l_5, l_6, l_7, l_8, l_9, l_10, l_11, l_12, l_13, l_14, l_15, l_16, l_17, l_18, l_19, l_20, l_21, l_22, l_23, l_24, l_25, l_26, l_27, l_28, l_29, l_30, l_31, l_32, l_40, l_41, l_42, l_43, l_44, l_45, l_46, l_47, l_48, l_49, l_50, l_51, l_52, l_53, l_54, l_55, l_56, l_57, l_58, l_59, l_60, l_61, l_62, l_63, l_64, l_72, l_97, l_99, l_100, l_104, l_120, l_122, l_128, l_140, l_255, l_256, l_257, l_258, l_260, l_261, l_262, l_364, l_680, l_700, l_701, l_840, l_999, l_1023, l_1024, l_9999, l_10000, l_1000000, lm]
    simp (disch := first | (with_reducible assumption) | omega | exact ⟨by omega, by omega⟩ | ((with_reducible first | apply Wf.wI | apply Wf.wL | apply Wf.fr); (repeat (with_reducible first | assumption | apply Wf.wI | apply Wf.wL | apply Wf.fr)))) only [ck_225, gI_225, gL_225, pI_225, pZ0_225, pZ1_225, pL_225, gR_225_1, gR_225_3, gR_225_4, gR_225_5, gR_225_6, gR_225_7, gR_225_8, gR_225_9, gR_225_10, gR_225_11, gR_225_12, gR_225_13, gR_225_14, gR_225_15, gR_225_16, gR_225_17, gR_225_18, gR_225_19, gR_225_20, gR_225_21, gR_225_35, gR_225_36, gR_225_38, gR_225_39, gR_225_40, gR_225_41, gR_225_43, gR_225_44, gR_225_45, gR_225_48, gR_225_49, gR_225_50, gR_225_51, gR_225_53, gR_225_54, gR_225_55, gR_225_56, gR_225_58, gR_225_59, gR_225_60, gR_225_61, gR_225_62, gR_225_63, gR_225_66, gR_225_67, bq_s, bd_s, mp_s, rz_0, rz_1, bI_rz, zadd, zmul, zsub, le_nI, lt_nI, eq_nI, neg_nI, gen_nI, neg_lt, neg_le, neg_lt', neg_le', nI_lt0, if_true, if_false, ite_true, ite_false, reduceIte, not_true, not_false, and_true, true_and, and_false, false_and, or_true, true_or, or_false, false_or, eq_self, aI_227, rd_C h, show (nC D ≤ k) = False from eq_false (by omega), m_isLaid h hs hx, bI_0, ite_n]
    unfold rgo
    cases hx2 : st x with
    | none =>
      have e1 : nx D st x = none := by unfold nx; rw [hx2]; rfl
      simp only [if_true, if_false, ite_true, ite_false, reduceIte, not_true, not_false, and_true, true_and, and_false, false_and, or_true, true_or, or_false, false_or, eq_self, ne_eq, not_true_eq_false, e1]
      rw [cI_f (fun q => q)]
    | some s =>
      have e1 : nx D st x = some (oth D s x) := by unfold nx; rw [hx2]; rfl
      have e2 := h.t.qoth (c := x) ((hs.2.2 x hx).2 s hx2)
      simp (disch := first | (with_reducible assumption) | omega | exact ⟨by omega, by omega⟩ | ((with_reducible first | apply Wf.wI | apply Wf.wL | apply Wf.fr); (repeat (with_reducible first | assumption | apply Wf.wI | apply Wf.wL | apply Wf.fr)))) only [if_true, if_false, ite_true, ite_false, reduceIte, not_true, not_false, and_true, true_and, and_false, false_and, or_true, true_or, or_false, false_or, eq_self, ne_eq, reduceCtorEq, m_to h hs hx hx2, bq_s, bd_s, mp_s, rz_0, rz_1, bI_rz, zadd, zmul, zsub, le_nI, lt_nI, eq_nI, neg_nI, gen_nI, neg_lt, neg_le, neg_lt', neg_le', nI_lt0, e1]
      rw [ih (k + 1) fu _ (by omega) (by omega) e2]
      by_cases q : oth D s x = c
      · rw [if_pos q, cI_t (Or.inl q)]
      · rw [if_neg q, cI_eq (show rgo (nx D st) c m (oth D s x) ↔ _ from ⟨Or.inr, fun r => r.elim (fun a => absurd a q) (fun a => a)⟩)]
theorem m_isRing (h : MInv σ D) (hs : StR σ D e st) {c : Nat} (hc : c < nC D) : f_X12_isRing 225 (nI c) σ = some (cI (Rg (nx D st) (nC D) c), σ) := by
  have hw := h.w
  have b1 := h.bd
  unfold f_X12_isRing f_X12_isRing_0
  simp only [to_bq, l_0, l_1, l_2, l_3, l_4, l_5, l_6, l_7, l_8, l_9, l_10, l_11, l_12, l_13, l_14, l_15, l_16, l_17, l_18, l_19, l_20, l_21, l_22, l_23, l_24, l_25, l_26, l_27, l_28, l_29, l_30, l_31, l_32, l_40, l_41, l_42, l_43, l_44, l_45, l_46, l_47, l_48, l_49, l_50, l_51, l_52, l_53, l_54, l_55, l_56, l_57, l_58, l_59, l_60, l_61, l_62, l_63, l_64, l_72, l_97, l_99, l_100, l_104, l_120, l_122, l_128, l_140, l_255, l_256, l_257, l_258, l_260, l_261, l_262, l_364, l_680, l_700, l_701, l_840, l_999, l_1023, l_1024, l_9999, l_10000, l_1000000, lm]
  rw [ck_225 hw, m_isRing4 h hs hc (nC D) 0 5000 c (by omega) (by omega) hc]
  rw [cI_eq (rgo_i (nC D) c)]
  rfl
theorem m_isReady2 (h : MInv σ D) (hs : StR σ D e st) {c : Nat} (hc : c < nC D) : ∀ m k fu, k + m = nC D → m < fu → f_X12_isReady_2 fu 225 (nI c) (nI k) σ = some (cI (∀ o, k ≤ o → o < nC D → nx D st o = some c → ah_I σ 254 o ≠ nI 0), σ) := by
  have hw := h.w
  have b1 := h.bd
  intro m
  induction m with
  | zero =>
    intro k fu hk hf
    obtain ⟨fu, rfl⟩ : ∃ q, fu = q + 1 := ⟨fu - 1, by omega⟩
    show f_X12_isReady_2_b _ _ _ _ _ = _
    unfold f_X12_isReady_2_b
    simp only [to_bq, l_0, l_1, l_2, l_3, l_4, l_5, l_6, l_7, l_8, l_9, l_10, l_11, l_12, l_13, l_14, l_15, l_16, l_17, l_18, l_19, l_20, l_21, l_22, l_23, l_24, l_25, l_26, l_27, l_28, l_29, l_30, l_31, l_32, l_40, l_41, l_42, l_43, l_44, l_45, l_46, l_47, l_48, l_49, l_50, l_51, l_52, l_53, l_54, l_55, l_56, l_57, l_58, l_59, l_60, l_61, l_62, l_63, l_64, l_72, l_97, l_99, l_100, l_104, l_120, l_122, l_128, l_140, l_255, l_256, l_257, l_258, l_260, l_261, l_262, l_364, l_680, l_700, l_701, l_840, l_999, l_1023, l_1024, l_9999, l_10000, l_1000000, lm]
    simp (disch := first | (with_reducible assumption) | omega | exact ⟨by omega, by omega⟩ | ((with_reducible first | apply Wf.wI | apply Wf.wL | apply Wf.fr); (repeat (with_reducible first | assumption | apply Wf.wI | apply Wf.wL | apply Wf.fr)))) only [ck_225, gI_225, gL_225, pI_225, pZ0_225, pZ1_225, pL_225, gR_225_1, gR_225_3, gR_225_4, gR_225_5, gR_225_6, gR_225_7, gR_225_8, gR_225_9, gR_225_10, gR_225_11, gR_225_12, gR_225_13, gR_225_14, gR_225_15, gR_225_16, gR_225_17, gR_225_18, gR_225_19, gR_225_20, gR_225_21, gR_225_35, gR_225_36, gR_225_38, gR_225_39, gR_225_40, gR_225_41, gR_225_43, gR_225_44, gR_225_45, gR_225_48, gR_225_49, gR_225_50, gR_225_51, gR_225_53, gR_225_54, gR_225_55, gR_225_56, gR_225_58, gR_225_59, gR_225_60, gR_225_61, gR_225_62, gR_225_63, gR_225_66, gR_225_67, bq_s, bd_s, mp_s, rz_0, rz_1, bI_rz, zadd, zmul, zsub, le_nI, lt_nI, eq_nI, neg_nI, gen_nI, neg_lt, neg_le, neg_lt', neg_le', nI_lt0, if_true, if_false, ite_true, ite_false, reduceIte, not_true, not_false, and_true, true_and, and_false, false_and, or_true, true_or, or_false, false_or, eq_self, aI_227, rd_C h, show (nC D ≤ k) = True from eq_true (by omega)]
    rw [cI_t]
    intro o h1 h2
    omega
  | succ m ih =>
    intro k fu hk hf
    obtain ⟨fu, rfl⟩ : ∃ q, fu = q + 1 := ⟨fu - 1, by omega⟩
    show f_X12_isReady_2_b _ _ _ _ _ = _
    unfold f_X12_isReady_2_b f_X12_isReady_32
    simp only [to_bq, l_0, l_1, l_2, l_3, l_4, l_5, l_6, l_7, l_8, l_9, l_10, l_11, l_12, l_13, l_14, l_15, l_16, l_17, l_18, l_19, l_20, l_21, l_22, l_23, l_24, l_25, l_26, l_27, l_28, l_29, l_30, l_31, l_32, l_40, l_41, l_42, l_43, l_44, l_45, l_46, l_47, l_48, l_49, l_50, l_51, l_52, l_53, l_54, l_55, l_56, l_57, l_58, l_59, l_60, l_61, l_62, l_63, l_64, l_72, l_97, l_99, l_100, l_104, l_120, l_122, l_128, l_140, l_255, l_256, l_257, l_258, l_260, l_261, l_262, l_364, l_680, l_700, l_701, l_840, l_999, l_1023, l_1024, l_9999, l_10000, l_1000000, lm]
    simp (disch := first | (with_reducible assumption) | omega | exact ⟨by omega, by omega⟩ | ((with_reducible first | apply Wf.wI | apply Wf.wL | apply Wf.fr); (repeat (with_reducible first | assumption | apply Wf.wI | apply Wf.wL | apply Wf.fr)))) only [ck_225, gI_225, gL_225, pI_225, pZ0_225, pZ1_225, pL_225, gR_225_1, gR_225_3, gR_225_4, gR_225_5, gR_225_6, gR_225_7, gR_225_8, gR_225_9, gR_225_10, gR_225_11, gR_225_12, gR_225_13, gR_225_14, gR_225_15, gR_225_16, gR_225_17, gR_225_18, gR_225_19, gR_225_20, gR_225_21, gR_225_35, gR_225_36, gR_225_38, gR_225_39, gR_225_40, gR_225_41, gR_225_43, gR_225_44, gR_225_45, gR_225_48, gR_225_49, gR_225_50, gR_225_51, gR_225_53, gR_225_54, gR_225_55, gR_225_56, gR_225_58, gR_225_59, gR_225_60, gR_225_61, gR_225_62, gR_225_63, gR_225_66, gR_225_67, bq_s, bd_s, mp_s, rz_0, rz_1, bI_rz, zadd, zmul, zsub, le_nI, lt_nI, eq_nI, neg_nI, gen_nI, neg_lt, neg_le, neg_lt', neg_le', nI_lt0, if_true, if_false, ite_true, ite_false, reduceIte, not_true, not_false, and_true, true_and, and_false, false_and, or_true, true_or, or_false, false_or, eq_self, aI_227, aZ_254, rd_C h, show (nC D ≤ k) = False from eq_false (by omega), m_runsTo h hs (show k < nC D by omega) hc, bI_0, ite_n, ih (k + 1) fu (by omega) (by omega)]
    by_cases q : nx D st k = some c
    · rw [if_pos q]
      by_cases q2 : ah_I σ 254 k = nI 0
      · rw [if_pos q2, cI_f (fun r => r k (Nat.le_refl _) (by omega) q q2)]
      · rw [if_neg q2]
        congr 2
        refine cI_eq ⟨fun r o h1 h2 h3 => ?_, fun r o h1 h2 h3 => r o (by omega) h2 h3⟩
        by_cases q3 : o = k
        · rw [q3]; exact q2
        · exact r o (by omega) h2 h3
    · rw [if_neg q]
      congr 2
      refine cI_eq ⟨fun r o h1 h2 h3 => ?_, fun r o h1 h2 h3 => r o (by omega) h2 h3⟩
      by_cases q3 : o = k
      · rw [q3] at h3; exact absurd h3 q
      · exact r o (by omega) h2 h3
theorem m_isReady (h : MInv σ D) (hs : StR σ D e st) {c : Nat} (hc : c < nC D) : f_X12_isReady 225 (nI c) σ = some (cI (∀ o, o < nC D → nx D st o = some c → ah_I σ 254 o ≠ nI 0), σ) := by
  have hw := h.w
  have b1 := h.bd
  unfold f_X12_isReady f_X12_isReady_0
  simp only [to_bq, l_0, l_1, l_2, l_3, l_4, l_5, l_6, l_7, l_8, l_9, l_10, l_11, l_12, l_13, l_14, l_15, l_16, l_17, l_18, l_19, l_20, l_21, l_22, l_23, l_24, l_25, l_26, l_27, l_28, l_29, l_30, l_31, l_32, l_40, l_41, l_42, l_43, l_44, l_45, l_46, l_47, l_48, l_49, l_50, l_51, l_52, l_53, l_54, l_55, l_56, l_57, l_58, l_59, l_60, l_61, l_62, l_63, l_64, l_72, l_97, l_99, l_100, l_104, l_120, l_122, l_128, l_140, l_255, l_256, l_257, l_258, l_260, l_261, l_262, l_364, l_680, l_700, l_701, l_840, l_999, l_1023, l_1024, l_9999, l_10000, l_1000000, lm]
  rw [ck_225 hw, m_isReady2 h hs hc (nC D) 0 5000 (by omega) (by omega)]
  congr 2
  exact cI_eq ⟨fun r o h2 h3 => r o (by omega) h2 h3, fun r o _ h2 h3 => r o h2 h3⟩
theorem m_atFlow (c r t : Nat) : f_X12_atFlow (nI c) (nI r) (nI t) σ = some (nI (atf c r t), σ) := by
  unfold f_X12_atFlow f_X12_atFlow_0
  simp only [l_4, l_30, zmul, zadd]
  rfl
/-- what those that run to a corner take -/
def tk (D : DD) (st : Nat → Option Nat) (G : Nat → Nat → Nat) (c t o : Nat) : Nat := if nx D st o = some c ∧ hr D st o ≤ t then G o (t - hr D st o) else 0
theorem m_fl82 (h : MInv σ D) (hs : StR σ D e st) {c r t : Nat} {M : Int} {G : Nat → Nat → Nat} (hc : c < nC D) (hr0 : r < nR D) (ht : t < 30) (hG : ∀ o, o < nC D → nx D st o = some c → ∀ q, q < 30 → ah_L σ 252 (atf o r q) = iL (G o q)) (K19 : Nat → Int32 → Int64 → Int32 → ah_H → Option ah_H) (K33 : Nat → Int32 → Int64 → Int32 → Int32 → ah_H → Option ah_H) (v : Nat) : ∀ m k fu, k + m = nC D → m < fu → f_X12_flowOf_82 K19 K33 fu 225 (nI c) (iL M) (nI r) (nI t) (iL ((v + sm (tk D st G c t) k : Nat) : Int)) (nI k) σ = f_X12_flowOf_156 K19 K33 225 (nI c) (iL M) (nI r) (nI t) (iL ((v + sm (tk D st G c t) (nC D) : Nat) : Int)) σ := by
  have hw := h.w
  have b1 := h.bd
  intro m
  induction m with
  | zero =>
    intro k fu hk hf
    obtain ⟨fu, rfl⟩ : ∃ q, fu = q + 1 := ⟨fu - 1, by omega⟩
    obtain rfl : k = nC D := by omega
    show f_X12_flowOf_82_b _ _ _ _ _ _ _ _ _ _ _ = _
    unfold f_X12_flowOf_82_b
    simp only [to_bq, l_0, l_1, l_2, l_3, l_4, l_5, l_6, l_7, l_8, l_9, l_10, l_11, l_12, l_13, l_14, l_15, l_16, l_17, l_18, l_19, l_20, l_21, l_22, l_23, l_24, l_25, l_26, l_27, l_28, l_29, l_30, l_31, l_32, l_40, l_41, l_42, l_43, l_44, l_45, l_46, l_47, l_48, l_49, l_50, l_51, l_52, l_53, l_54, l_55, l_56, l_57, l_58, l_59, l_60, l_61, l_62, l_63, l_64, l_72, l_97, l_99, l_100, l_104, l_120, l_122, l_128, l_140, l_255, l_256, l_257, l_258, l_260, l_261, l_262, l_364, l_680, l_700, l_701, l_840, l_999, l_1023, l_1024, l_9999, l_10000, l_1000000, lm]
    simp (disch := first | (with_reducible assumption) | omega | exact ⟨by omega, by omega⟩ | ((with_reducible first | apply Wf.wI | apply Wf.wL | apply Wf.fr); (repeat (with_reducible first | assumption | apply Wf.wI | apply Wf.wL | apply Wf.fr)))) only [ck_225, gI_225, gL_225, pI_225, pZ0_225, pZ1_225, pL_225, gR_225_1, gR_225_3, gR_225_4, gR_225_5, gR_225_6, gR_225_7, gR_225_8, gR_225_9, gR_225_10, gR_225_11, gR_225_12, gR_225_13, gR_225_14, gR_225_15, gR_225_16, gR_225_17, gR_225_18, gR_225_19, gR_225_20, gR_225_21, gR_225_35, gR_225_36, gR_225_38, gR_225_39, gR_225_40, gR_225_41, gR_225_43, gR_225_44, gR_225_45, gR_225_48, gR_225_49, gR_225_50, gR_225_51, gR_225_53, gR_225_54, gR_225_55, gR_225_56, gR_225_58, gR_225_59, gR_225_60, gR_225_61, gR_225_62, gR_225_63, gR_225_66, gR_225_67, bq_s, bd_s, mp_s, rz_0, rz_1, bI_rz, zadd, zmul, zsub, le_nI, lt_nI, eq_nI, neg_nI, gen_nI, neg_lt, neg_le, neg_lt', neg_le', nI_lt0, if_true, if_false, ite_true, ite_false, reduceIte, not_true, not_false, and_true, true_and, and_false, false_and, or_true, true_or, or_false, false_or, eq_self, aI_227, rd_C h, Nat.le_refl]
  | succ m ih =>
    intro k fu hk hf
    obtain ⟨fu, rfl⟩ : ∃ q, fu = q + 1 := ⟨fu - 1, by omega⟩
    show f_X12_flowOf_82_b _ _ _ _ _ _ _ _ _ _ _ = _
    unfold f_X12_flowOf_82_b f_X12_flowOf_150
    simp only [to_bq, l_0, l_1, l_2, l_3, l_4, l_5, l_6, l_7, l_8, l_9, l_10, l_11, l_12, l_13, l_14, l_15, l_16, l_17, l_18, l_19, l_20, l_21, l_22, l_23, l_24, l_25, l_26, l_27, l_28, l_29, l_30, l_31, l_32, l_40, l_41, l_42, l_43, l_44, l_45, l_46, l_47, l_48, l_49, l_50, l_51, l_52, l_53, l_54, l_55, l_56, l_57, l_58, l_59, l_60, l_61, l_62, l_63, l_64, l_72, l_97, l_99, l_100, l_104, l_120, l_122, l_128, l_140, l_255, l_256, l_257, l_258, l_260, l_261, l_262, l_364, l_680, l_700, l_701, l_840, l_999, l_1023, l_1024, l_9999, l_10000, l_1000000, lm]
    rw [← ih (k + 1) fu (by omega) (by omega)]
    have hk' : k < nC D := by omega
    simp (disch := first | (with_reducible assumption) | omega | exact ⟨by omega, by omega⟩ | ((with_reducible first | apply Wf.wI | apply Wf.wL | apply Wf.fr); (repeat (with_reducible first | assumption | apply Wf.wI | apply Wf.wL | apply Wf.fr)))) only [ck_225, gI_225, gL_225, pI_225, pZ0_225, pZ1_225, pL_225, gR_225_1, gR_225_3, gR_225_4, gR_225_5, gR_225_6, gR_225_7, gR_225_8, gR_225_9, gR_225_10, gR_225_11, gR_225_12, gR_225_13, gR_225_14, gR_225_15, gR_225_16, gR_225_17, gR_225_18, gR_225_19, gR_225_20, gR_225_21, gR_225_35, gR_225_36, gR_225_38, gR_225_39, gR_225_40, gR_225_41, gR_225_43, gR_225_44, gR_225_45, gR_225_48, gR_225_49, gR_225_50, gR_225_51, gR_225_53, gR_225_54, gR_225_55, gR_225_56, gR_225_58, gR_225_59, gR_225_60, gR_225_61, gR_225_62, gR_225_63, gR_225_66, gR_225_67, bq_s, bd_s, mp_s, rz_0, rz_1, bI_rz, zadd, zmul, zsub, le_nI, lt_nI, eq_nI, neg_nI, gen_nI, neg_lt, neg_le, neg_lt', neg_le', nI_lt0, if_true, if_false, ite_true, ite_false, reduceIte, not_true, not_false, and_true, true_and, and_false, false_and, or_true, true_or, or_false, false_or, eq_self, aI_227, rd_C h, show (nC D ≤ k) = False from eq_false (by omega), m_runsTo h hs hk' hc, bI_0, ite_n]
    show _ = f_X12_flowOf_82 K19 K33 fu 225 (nI c) (iL M) (nI r) (nI t) (iL ((v + (sm (tk D st G c t) k + tk D st G c t k) : Nat) : Int)) (nI (k + 1)) σ
    by_cases q : nx D st k = some c
    · rw [if_pos q]
      cases hx : st k with
      | none => unfold nx at q; rw [hx] at q; cases q
      | some s =>
        have hs' := (hs.2.2 k hk').2 s hx
        have e1 : hr D st k = hrs D s := by unfold hr; rw [hx]
        have e3 := h.t.qhrs3 hs'
        simp (disch := first | (with_reducible assumption) | omega | exact ⟨by omega, by omega⟩ | ((with_reducible first | apply Wf.wI | apply Wf.wL | apply Wf.fr); (repeat (with_reducible first | assumption | apply Wf.wI | apply Wf.wL | apply Wf.fr)))) only [ck_225, gI_225, gL_225, pI_225, pZ0_225, pZ1_225, pL_225, gR_225_1, gR_225_3, gR_225_4, gR_225_5, gR_225_6, gR_225_7, gR_225_8, gR_225_9, gR_225_10, gR_225_11, gR_225_12, gR_225_13, gR_225_14, gR_225_15, gR_225_16, gR_225_17, gR_225_18, gR_225_19, gR_225_20, gR_225_21, gR_225_35, gR_225_36, gR_225_38, gR_225_39, gR_225_40, gR_225_41, gR_225_43, gR_225_44, gR_225_45, gR_225_48, gR_225_49, gR_225_50, gR_225_51, gR_225_53, gR_225_54, gR_225_55, gR_225_56, gR_225_58, gR_225_59, gR_225_60, gR_225_61, gR_225_62, gR_225_63, gR_225_66, gR_225_67, m_streetOf h hs hk', hx, show sv (some s) = nI s from rfl, bq_s, bd_s, mp_s, rz_0, rz_1, bI_rz, zadd, zmul, zsub, le_nI, lt_nI, eq_nI, neg_nI, gen_nI, neg_lt, neg_le, neg_lt', neg_le', nI_lt0, aI_235, rd_hrs h]
        by_cases q2 : t < hrs D s
        · rw [if_pos q2]
          have : tk D st G c t k = 0 := if_neg (by rw [e1]; omega)
          rw [this]
          rfl
        · rw [if_neg q2]
          have : tk D st G c t k = G k (t - hrs D s) := by unfold tk; rw [if_pos ⟨q, by rw [e1]; omega⟩, e1]
          rw [this]
          have hb : atf k r (t - hrs D s) < 840 := by unfold atf; omega
          simp (disch := first | (with_reducible assumption) | omega | exact ⟨by omega, by omega⟩ | ((with_reducible first | apply Wf.wI | apply Wf.wL | apply Wf.fr); (repeat (with_reducible first | assumption | apply Wf.wI | apply Wf.wL | apply Wf.fr)))) only [ck_225, gI_225, gL_225, pI_225, pZ0_225, pZ1_225, pL_225, gR_225_1, gR_225_3, gR_225_4, gR_225_5, gR_225_6, gR_225_7, gR_225_8, gR_225_9, gR_225_10, gR_225_11, gR_225_12, gR_225_13, gR_225_14, gR_225_15, gR_225_16, gR_225_17, gR_225_18, gR_225_19, gR_225_20, gR_225_21, gR_225_35, gR_225_36, gR_225_38, gR_225_39, gR_225_40, gR_225_41, gR_225_43, gR_225_44, gR_225_45, gR_225_48, gR_225_49, gR_225_50, gR_225_51, gR_225_53, gR_225_54, gR_225_55, gR_225_56, gR_225_58, gR_225_59, gR_225_60, gR_225_61, gR_225_62, gR_225_63, gR_225_66, gR_225_67, m_streetOf h hs hk', hx, show sv (some s) = nI s from rfl, bq_s, bd_s, mp_s, rz_0, rz_1, bI_rz, zadd, zmul, zsub, le_nI, lt_nI, eq_nI, neg_nI, gen_nI, neg_lt, neg_le, neg_lt', neg_le', nI_lt0, aI_235, rd_hrs h, m_atFlow, aL_252, hG k hk' q (t - hrs D s) (by omega), iadd]
          congr 2
          omega
    · rw [if_neg q]
      have : tk D st G c t k = 0 := if_neg (fun r => q r.1)
      rw [this]
      rfl
/-- the block of a corner's flows and floods -/
def Xc (c a j : Nat) : Prop := 252 ≤ a ∧ a ≤ 253 ∧ 120 * c ≤ j ∧ j < 120 * c + 120
theorem Xc_q {c : Nat} : ∀ a j, Xc c a j → Xq a j := by
  intro a j h; unfold Xc at h; unfold Xq; omega
theorem StR.xc {τ : ah_H} (h : StR σ D e st) {c : Nat} (hC : nC D ≤ 7) (g : Fr (Xc c) σ τ) : StR τ D e st := h.fr g hC (by unfold Xc; omega) (fun _ _ => by unfold Xc; omega)
/-- one hour of a corner -/
theorem m_fl33 (h0 : MInv σ D) (hs0 : StR σ D e st) {c r : Nat} {M : Int} {G : Nat → Nat → Nat} (hc : c < nC D) (hr0 : r < nR D) (hM : 0 ≤ M ∧ M ≤ 4000000000000000000) (hG : ∀ o, o < nC D → nx D st o = some c → ∀ q, q < 30 → ah_L σ 252 (atf o r q) = iL (G o q)) (hGb : ∀ o q, o < nC D → G o q ≤ 1400000000) (V : Nat → Nat) (hV : ∀ t, t < 30 → V t = ra D r c t + sm (tk D st G c t) (nC D)) (K19 : Nat → Int32 → Int64 → Int32 → ah_H → Option ah_H) : ∀ m k fu τ, k + m = 30 → m < fu → Fr (Xc c) σ τ → ∃ ρ, f_X12_flowOf_33 K19 fu 225 (nI c) (iL M) (nI r) (nI k) τ = K19 225 (nI c) (iL M) (nI (r + 1)) ρ ∧ Fr (Xc c) τ ρ ∧ (∀ t, k ≤ t → t < 30 → ah_L ρ 252 (atf c r t) = iL (min M (V t)) ∧ ah_L ρ 253 (atf c r t) = iL (max 0 (V t - M))) ∧ ∀ a j, ¬ (atf c r k ≤ j ∧ j < atf c r 30) → ah_L ρ a j = ah_L τ a j := by
  have b1 := h0.bd
  intro m
  induction m with
  | zero =>
    intro k fu τ hk hf hfr
    obtain ⟨fu, rfl⟩ : ∃ q, fu = q + 1 := ⟨fu - 1, by omega⟩
    obtain rfl : k = 30 := by omega
    refine ⟨τ, ?_, Fr.rfl, fun t a b => by omega, fun a j _ => rfl⟩
    show f_X12_flowOf_33_b _ _ _ _ _ _ _ _ = _
    unfold f_X12_flowOf_33_b f_X12_flowOf_202
    simp only [to_bq, l_0, l_1, l_2, l_3, l_4, l_5, l_6, l_7, l_8, l_9, l_10, l_11, l_12, l_13, l_14, l_15, l_16, l_17, l_18, l_19, l_20, l_21, l_22, l_23, l_24, l_25, l_26, l_27, l_28, l_29, l_30, l_31, l_32, l_40, l_41, l_42, l_43, l_44, l_45, l_46, l_47, l_48, l_49, l_50, l_51, l_52, l_53, l_54, l_55, l_56, l_57, l_58, l_59, l_60, l_61, l_62, l_63, l_64, l_72, l_97, l_99, l_100, l_104, l_120, l_122, l_128, l_140, l_255, l_256, l_257, l_258, l_260, l_261, l_262, l_364, l_680, l_700, l_701, l_840, l_999, l_1023, l_1024, l_9999, l_10000, l_1000000, lm]
    simp (disch := first | (with_reducible assumption) | omega | exact ⟨by omega, by omega⟩ | ((with_reducible first | apply Wf.wI | apply Wf.wL | apply Wf.fr); (repeat (with_reducible first | assumption | apply Wf.wI | apply Wf.wL | apply Wf.fr)))) only [zadd, zmul, zsub, le_nI, lt_nI, eq_nI, neg_nI, gen_nI, neg_lt, neg_le, neg_lt', neg_le', nI_lt0, Nat.reduceEqDiff, Nat.reduceAdd, Nat.reduceMul, Nat.reduceSub, Nat.reduceLT, Nat.reduceLeDiff, Nat.add_sub_cancel, Nat.zero_add, Nat.add_zero, Nat.mul_zero, Nat.zero_mul, if_true, if_false, ite_true, ite_false, reduceIte, not_true, not_false, and_true, true_and, and_false, false_and, or_true, true_or, or_false, false_or, eq_self]
  | succ m ih =>
    intro k fu τ hk hf hfr
    obtain ⟨fu, rfl⟩ : ∃ q, fu = q + 1 := ⟨fu - 1, by omega⟩
    have h : MInv τ D := h0.q (hfr.mono Xc_q)
    have hs := hs0.xc b1.1 hfr
    have hw := h.w
    have hG' : ∀ o, o < nC D → nx D st o = some c → ∀ q, q < 30 → ah_L τ 252 (atf o r q) = iL (G o q) := by
      intro o ho hx q hq
      rw [hfr.L (by unfold Xc atf; have : o ≠ c := fun e1 => hs.nxn h.t hc (e1 ▸ hx); omega)]
      exact hG o ho hx q hq
    have b2' := h.t.qrnh6 hr0
    have b3 := h.t.qare9 hc
    have hb : atf c r k < 840 := by unfold atf; omega
    have hVk := hV k (by omega)
    have hsb : sm (tk D st G c k) (nC D) ≤ nC D * 1400000000 := sm_le (fun o ho => by unfold tk; split; exact hGb _ _ ho; omega)
    have hrb : ra D r c k ≤ 9801 := by
      unfold ra
      split
      · next q => exact Nat.le_trans (Nat.mul_le_mul b3 (h.t.qrnv99 hr0 q)) (by decide)
      · omega
    have hVb : V k ≤ 10000000000 := by
      have : nC D * 1400000000 ≤ 7 * 1400000000 := Nat.mul_le_mul_right _ b1.1
      omega
    have go : ∀ v : Nat, v = ra D r c k → ∃ ρ, f_X12_flowOf_77 K19 (f_X12_flowOf_33 K19 fu) 225 (nI c) (iL M) (nI r) (nI k) (iL (v : Int)) τ = K19 225 (nI c) (iL M) (nI (r + 1)) ρ ∧ Fr (Xc c) τ ρ ∧ (∀ t, k ≤ t → t < 30 → ah_L ρ 252 (atf c r t) = iL (min M (V t)) ∧ ah_L ρ 253 (atf c r t) = iL (max 0 (V t - M))) ∧ ∀ a j, ¬ (atf c r k ≤ j ∧ j < atf c r 30) → ah_L ρ a j = ah_L τ a j := by
      intro v hv
      unfold f_X12_flowOf_77
      have e1 := m_fl82 h hs (M := M) hc hr0 (show k < 30 by omega) hG' K19 (f_X12_flowOf_33 K19 fu) v (nC D) 0 5000 (by omega) (by omega)
      have e1 : f_X12_flowOf_82 K19 (f_X12_flowOf_33 K19 fu) 5000 225 (nI c) (iL M) (nI r) (nI k) (iL (v : Int)) (nI 0) τ = _ := e1
      rw [l_0, e1, hv, ← hVk]
      unfold f_X12_flowOf_156
      simp only [to_bq, l_0, l_1, l_2, l_3, l_4, l_5, l_6, l_7, l_8, l_9, l_10, l_11, l_12, l_13, l_14, l_15, l_16, l_17, l_18, l_19, l_20, l_21, l_22, l_23, l_24, l_25, l_26, l_27, l_28, l_29, l_30, l_31, l_32, l_40, l_41, l_42, l_43, l_44, l_45, l_46, l_47, l_48, l_49, l_50, l_51, l_52, l_53, l_54, l_55, l_56, l_57, l_58, l_59, l_60, l_61, l_62, l_63, l_64, l_72, l_97, l_99, l_100, l_104, l_120, l_122, l_128, l_140, l_255, l_256, l_257, l_258, l_260, l_261, l_262, l_364, l_680, l_700, l_701, l_840, l_999, l_1023, l_1024, l_9999, l_10000, l_1000000, lm]
      simp (disch := first | (with_reducible assumption) | omega | exact ⟨by omega, by omega⟩ | ((with_reducible first | apply Wf.wI | apply Wf.wL | apply Wf.fr); (repeat (with_reducible first | assumption | apply Wf.wI | apply Wf.wL | apply Wf.fr)))) only [ck_225, gI_225, gL_225, pI_225, pZ0_225, pZ1_225, pL_225, gR_225_1, gR_225_3, gR_225_4, gR_225_5, gR_225_6, gR_225_7, gR_225_8, gR_225_9, gR_225_10, gR_225_11, gR_225_12, gR_225_13, gR_225_14, gR_225_15, gR_225_16, gR_225_17, gR_225_18, gR_225_19, gR_225_20, gR_225_21, gR_225_35, gR_225_36, gR_225_38, gR_225_39, gR_225_40, gR_225_41, gR_225_43, gR_225_44, gR_225_45, gR_225_48, gR_225_49, gR_225_50, gR_225_51, gR_225_53, gR_225_54, gR_225_55, gR_225_56, gR_225_58, gR_225_59, gR_225_60, gR_225_61, gR_225_62, gR_225_63, gR_225_66, gR_225_67, bq_s, bd_s, mp_s, rz_0, rz_1, bI_rz, zadd, zmul, zsub, le_nI, lt_nI, eq_nI, neg_nI, gen_nI, neg_lt, neg_le, neg_lt', neg_le', nI_lt0, q_0, q_1, q_100, q_9999, q_1000000000000, q_100000000000000000, q_4000000000000000000, q_4611686018427387903, q_9223372036854775807, iadd, isub, imul, ineg, cmp_e, cmp_le, cmp_lt, cmp_ge, cmp_gt, maxl_i, minl_i, absl_i, toL_n, ldiv_i, m_atFlow, sL_252, sL_253]
      have f1 : Fr (Xc c) τ (ah_wL (ah_wL τ 252 (atf c r k) (iL (min M (V k)))) 253 (atf c r k) (iL (max 0 (V k - M)))) := (Fr.rfl.wL (by unfold Xc atf; omega)).wL (by unfold Xc atf; omega)
      obtain ⟨ρ, g1, g2, g3, g4⟩ := ih (k + 1) fu _ (by omega) (by omega) (hfr.trans f1)
      refine ⟨ρ, g1, f1.trans g2, ?_, ?_⟩
      · intro t ht1 ht2
        by_cases q : t = k
        · subst q
          rw [g4 _ _ (by unfold atf; omega), g4 _ _ (by unfold atf; omega)]
          exact ⟨by rw [rL_ne (Or.inl (by omega)), rL_eq], rL_eq⟩
        · exact g3 t (by omega) ht2
      · intro a j hj
        rw [g4 a j (by unfold atf at hj ⊢; omega), rL_ne (Or.inr (by unfold atf at hj ⊢; omega)), rL_ne (Or.inr (by unfold atf at hj ⊢; omega))]
    show ∃ ρ, f_X12_flowOf_33_b _ _ _ _ _ _ _ _ = _ ∧ _
    unfold f_X12_flowOf_33_b
    simp only [to_bq, l_0, l_1, l_2, l_3, l_4, l_5, l_6, l_7, l_8, l_9, l_10, l_11, l_12, l_13, l_14, l_15, l_16, l_17, l_18, l_19, l_20, l_21, l_22, l_23, l_24, l_25, l_26, l_27, l_28, l_29, l_30, l_31, l_32, l_40, l_41, l_42, l_43, l_44, l_45, l_46, l_47, l_48, l_49, l_50, l_51, l_52, l_53, l_54, l_55, l_56, l_57, l_58, l_59, l_60, l_61, l_62, l_63, l_64, l_72, l_97, l_99, l_100, l_104, l_120, l_122, l_128, l_140, l_255, l_256, l_257, l_258, l_260, l_261, l_262, l_364, l_680, l_700, l_701, l_840, l_999, l_1023, l_1024, l_9999, l_10000, l_1000000, lm]
    by_cases q : k < rnh D r
    · skip
      have b4 := h.t.qrnv99 hr0 q
      have b5 : are D c * rnv D r k ≤ 9801 := Nat.le_trans (Nat.mul_le_mul b3 b4) (by decide)
      simp (disch := first | (with_reducible assumption) | omega | exact ⟨by omega, by omega⟩ | ((with_reducible first | apply Wf.wI | apply Wf.wL | apply Wf.fr); (repeat (with_reducible first | assumption | apply Wf.wI | apply Wf.wL | apply Wf.fr)))) only [ck_225, gI_225, gL_225, pI_225, pZ0_225, pZ1_225, pL_225, gR_225_1, gR_225_3, gR_225_4, gR_225_5, gR_225_6, gR_225_7, gR_225_8, gR_225_9, gR_225_10, gR_225_11, gR_225_12, gR_225_13, gR_225_14, gR_225_15, gR_225_16, gR_225_17, gR_225_18, gR_225_19, gR_225_20, gR_225_21, gR_225_35, gR_225_36, gR_225_38, gR_225_39, gR_225_40, gR_225_41, gR_225_43, gR_225_44, gR_225_45, gR_225_48, gR_225_49, gR_225_50, gR_225_51, gR_225_53, gR_225_54, gR_225_55, gR_225_56, gR_225_58, gR_225_59, gR_225_60, gR_225_61, gR_225_62, gR_225_63, gR_225_66, gR_225_67, bq_s, bd_s, mp_s, rz_0, rz_1, bI_rz, zadd, zmul, zsub, le_nI, lt_nI, eq_nI, neg_nI, gen_nI, neg_lt, neg_le, neg_lt', neg_le', nI_lt0, if_true, if_false, ite_true, ite_false, reduceIte, not_true, not_false, and_true, true_and, and_false, false_and, or_true, true_or, or_false, false_or, eq_self, aI_240, aI_230, aI_241, rd_rnh h, rd_are h, rd_rnv h, toL_n, show (30 ≤ k) = False from eq_false (by omega), show (rnh D r ≤ k) = False from eq_false (by omega)]
      exact go _ (by unfold ra; rw [if_pos q])
    · skip
      simp (disch := first | (with_reducible assumption) | omega | exact ⟨by omega, by omega⟩ | ((with_reducible first | apply Wf.wI | apply Wf.wL | apply Wf.fr); (repeat (with_reducible first | assumption | apply Wf.wI | apply Wf.wL | apply Wf.fr)))) only [ck_225, gI_225, gL_225, pI_225, pZ0_225, pZ1_225, pL_225, gR_225_1, gR_225_3, gR_225_4, gR_225_5, gR_225_6, gR_225_7, gR_225_8, gR_225_9, gR_225_10, gR_225_11, gR_225_12, gR_225_13, gR_225_14, gR_225_15, gR_225_16, gR_225_17, gR_225_18, gR_225_19, gR_225_20, gR_225_21, gR_225_35, gR_225_36, gR_225_38, gR_225_39, gR_225_40, gR_225_41, gR_225_43, gR_225_44, gR_225_45, gR_225_48, gR_225_49, gR_225_50, gR_225_51, gR_225_53, gR_225_54, gR_225_55, gR_225_56, gR_225_58, gR_225_59, gR_225_60, gR_225_61, gR_225_62, gR_225_63, gR_225_66, gR_225_67, bq_s, bd_s, mp_s, rz_0, rz_1, bI_rz, zadd, zmul, zsub, le_nI, lt_nI, eq_nI, neg_nI, gen_nI, neg_lt, neg_le, neg_lt', neg_le', nI_lt0, if_true, if_false, ite_true, ite_false, reduceIte, not_true, not_false, and_true, true_and, and_false, false_and, or_true, true_or, or_false, false_or, eq_self, aI_240, rd_rnh h, q_0, show (30 ≤ k) = False from eq_false (by omega), show (rnh D r ≤ k) = True from eq_true (by omega)]
      exact go 0 (by unfold ra; rw [if_neg q])
end
