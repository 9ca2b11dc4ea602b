/-! TEXT OF THE REFERENCE -/
/-- the reference between two lines -/
def RLs (ρ : ah_H) (T : Nat → Nat) (n i : Nat) (E : DD) (td : Nat) (o : List (Nat × Nat)) : Prop := RSt ρ T n (i, none) ∧ RdE ρ E ∧ ah_I ρ 225 22 = nI td ∧ LnI E td o ∧ RKn ρ o
/-- the reference behind the last line -/
def RLz (τ : ah_H) (T : Nat → Nat) (n : Nat) (r : LnZ) : Prop := match r with
  | .inl x => XpF τ T n x.1 x.2
  | .inr (E, td, o, ls) => Wf τ ∧ RdE τ E ∧ LnI E td o ∧ RKn τ o ∧ ah_I τ 225 23 = nI ls ∧ ah_I τ 225 29 = nI 0 ∧ ah_I τ 225 30 = mI 1
section
variable {σ τ : ah_H} {T : Nat → Nat} {n i N : Nat} {E : DD} {td : Nat} {o : List (Nat × Nat)}
theorem m_half {a h : Nat} (hW : Wf σ) (hs : S0[a]? = some (.inl (.int, 2 * h))) (hh : h ≤ 64) : ∃ τ, f_X12_half a σ = some τ ∧ Fr (fun x j => x = a ∧ j < h) σ τ ∧ ∀ j, j < h → ah_I τ a j = ah_I σ a (h + j) := by
  have L : ∀ m k fu (τ : ah_H), k + m = h → m < fu → Fr (fun x j => x = a ∧ j < h) σ τ → (∀ j, j < k → ah_I τ a j = ah_I σ a (h + j)) → ∃ υ, f_X12_half_7 fu a (nI h) (nI k) τ = some υ ∧ Fr (fun x j => x = a ∧ j < h) σ υ ∧ ∀ j, j < h → ah_I υ a j = ah_I σ a (h + j) := by
    intro m
    induction m with
    | zero =>
      intro k fu τ hk hf g e
      obtain ⟨fu, rfl⟩ : ∃ q, fu = q + 1 := ⟨fu - 1, by omega⟩
      obtain rfl : k = h := by omega
      refine ⟨τ, ?_, g, e⟩
      show f_X12_half_7_b _ _ _ _ _ = _
      unfold f_X12_half_7_b
      rw [if_pos (Int32.le_refl _)]
    | succ m ih =>
      intro k fu τ hk hf g e
      obtain ⟨fu, rfl⟩ : ∃ q, fu = q + 1 := ⟨fu - 1, by omega⟩
      have hw := hW.fr g
      have g2 : Fr (fun x j => x = a ∧ j < h) σ (ah_wI τ a k (ah_I τ a (h + k))) := g.wI ⟨rfl, by omega⟩
      obtain ⟨υ, u1, u2, u3⟩ := ih (k + 1) fu _ (by omega) (by omega) g2 (fun j hj => by
        by_cases z : j = k
        · rw [z, rI_eq, g.I (by omega)]
        · rw [rI_ne (Or.inr (by omega))]; exact e j (by omega))
      refine ⟨υ, ?_, u2, u3⟩
      rw [← u1]
      show f_X12_half_7_b _ _ _ _ _ = _
      unfold f_X12_half_7_b
      rw [if_neg (by rw [le_nI (by omega) (by omega)]; omega), zadd, hw.aI hs (by omega) (by omega), bd_s, hw.sI hs (by omega) (by omega), bd_s, l_1, zadd]
  obtain ⟨υ, u1, u2, u3⟩ := L h 0 5000 σ (by omega) (by omega) Fr.rfl (fun j hj => by omega)
  refine ⟨υ, ?_, u2, u3⟩
  unfold f_X12_half f_X12_half_0
  rw [hW.len hs, bd_s, ofN, l_2, div_nI (by omega) (by omega) (by omega), bd_s, Nat.mul_div_cancel_left _ (by omega), l_0]
  exact u1
theorem S0_hf : ∀ a, a < 19 → S0[227 + a]? = some (.inl (.int, 2 * hf (227 + a))) := by decide +kernel
theorem hf_64 {a : Nat} : hf a ≤ 64 := by
  unfold hf
  repeat' split
  all_goals omega
def Xhv (a j : Nat) : Prop := 227 ≤ a ∧ a ≤ 245 ∧ j < hf a
def HvS (σ : ah_H) (b : Nat) (τ : ah_H) : Prop := Fr Xhv σ τ ∧ ∀ a, 227 ≤ a → a < b → ∀ j, j < hf a → ah_I τ a j = ah_I σ a (hf a + j)
theorem m_hv {a : Nat} (hW : Wf σ) (h : HvS σ a τ) (ha : 227 ≤ a) (ha2 : a ≤ 245) : ∃ υ, f_X12_half a τ = some υ ∧ HvS σ (a + 1) υ ∧ Wf υ := by
  have hs := S0_hf (a - 227) (by omega)
  rw [show 227 + (a - 227) = a by omega] at hs
  have hw := hW.fr h.1
  obtain ⟨υ, u1, u2, u3⟩ := m_half hw hs hf_64
  have g := h.1.trans (u2.mono (fun x j z => show Xhv x j from ⟨by omega, by omega, by rw [z.1]; exact z.2⟩))
  refine ⟨υ, u1, ⟨g, fun b h1 h2 j hj => ?_⟩, hW.fr g⟩
  by_cases z : b = a
  · subst z
    rw [u3 j hj, h.1.I (by unfold Xhv; omega)]
  · rw [u2.I (by omega)]; exact h.2 b h1 (by omega) j hj
theorem m_361 : ∀ m k fu (τ : ah_H), k + m = 7 → m < fu → Wf τ → f_X12_text_361 fu 225 (nI k) τ = f_X12_text_380 225 (ah_fI τ 248 k 7 (mI 1)) := by
  intro m
  induction m with
  | zero =>
    intro k fu τ hk hf hw
    obtain ⟨fu, rfl⟩ : ∃ q, fu = q + 1 := ⟨fu - 1, by omega⟩
    obtain rfl : k = 7 := by omega
    show f_X12_text_361_b _ _ _ _ = _
    unfold f_X12_text_361_b
    rw [show (7 : Int32) = nI 7 from l_7, if_pos (Int32.le_refl _), fI_0]
  | succ m ih =>
    intro k fu τ hk hf hw
    obtain ⟨fu, rfl⟩ : ∃ q, fu = q + 1 := ⟨fu - 1, by omega⟩
    show f_X12_text_361_b _ _ _ _ = _
    unfold f_X12_text_361_b
    simp only [to_bq, l_0, l_1, l_2, l_3, l_4, l_5, l_6, l_7, l_8, l_9, l_10, l_11, l_12, l_13, l_14, l_15, l_16, l_17, l_18, l_19, l_20, l_21, l_22, l_23, l_24, l_25, l_26, l_27, l_28, l_29, l_30, l_31, l_32, l_40, l_41, l_42, l_43, l_44, l_45, l_46, l_47, l_48, l_49, l_50, l_51, l_52, l_53, l_54, l_55, l_56, l_57, l_58, l_59, l_60, l_61, l_62, l_63, l_64, l_72, l_97, l_99, l_100, l_104, l_120, l_122, l_128, l_140, l_255, l_256, l_257, l_258, l_260, l_261, l_262, l_364, l_680, l_700, l_701, l_840, l_999, l_1023, l_1024, l_9999, l_10000, l_1000000, lm]
    rw [if_neg (by rw [le_nI (by omega) (by omega)]; omega), gR_225_38 hw, bq_s, sI_248 hw (by omega), bq_s, zadd, ih (k + 1) fu _ (by omega) (by omega) (hw.wI _ _ _), fI_s _ _ (by omega)]
/-- line by line -/
theorem m_lns (hN : tS (tks T n N) = 4) : ∀ f i E td o ls fu (σ : ah_H), N + 1 - i ≤ f → f + 1 < fu → i ≤ N → RLs σ T n i E td o → ah_I σ 225 23 = nI ls → ∃ τ, f_X12_text_179 fu 225 σ = f_X12_text_201 225 τ ∧ Fr Xln σ τ ∧ RLz τ T n (lns (tks T n) f i E td o ls) := by
  intro f
  induction f with
  | zero => intro i E td o ls fu σ h1 h2 h3; omega
  | succ f ih =>
    intro i E td o ls fu σ h1 h2 h3 h h23
    obtain ⟨fu, rfl⟩ : ∃ q, fu = q + 1 := ⟨fu - 1, by omega⟩
    obtain ⟨r1, r2, r3, r4, r5⟩ := h
    have hW := r1.w
    have h29 : ah_I σ 225 29 = nI 0 := r1.2
    have hs := (tks_n (T := T) (n := n) i).2.2
    obtain ⟨k1, k2, k3, k4⟩ := r1.1.2
    have e0 : f_X12_text_179 (fu + 1) 225 σ = f_X12_text_179_b (f_X12_text_179 fu) 225 σ := rfl
    rw [e0]
    unfold f_X12_text_179_b
    simp only [to_bq, l_0, l_1, l_2, l_3, l_4, l_5, l_6, l_7, l_8, l_9, l_10, l_11, l_12, l_13, l_14, l_15, l_16, l_17, l_18, l_19, l_20, l_21, l_22, l_23, l_24, l_25, l_26, l_27, l_28, l_29, l_30, l_31, l_32, l_40, l_41, l_42, l_43, l_44, l_45, l_46, l_47, l_48, l_49, l_50, l_51, l_52, l_53, l_54, l_55, l_56, l_57, l_58, l_59, l_60, l_61, l_62, l_63, l_64, l_72, l_97, l_99, l_100, l_104, l_120, l_122, l_128, l_140, l_255, l_256, l_257, l_258, l_260, l_261, l_262, l_364, l_680, l_700, l_701, l_840, l_999, l_1023, l_1024, l_9999, l_10000, l_1000000, lm]
    simp (disch := first | (with_reducible assumption) | omega | exact ⟨by omega, by omega⟩ | ((with_reducible first | apply Wf.wI | apply Wf.wL | apply Wf.fL | apply Wf.fI | apply Wf.fr); (repeat (with_reducible first | assumption | apply Wf.wI | apply Wf.wL | apply Wf.fL | apply Wf.fI | apply Wf.fr)))) only [ck_225, gI_225, gL_225, pI_225, pZ0_225, pZ1_225, pL_225, gR_225_1, gR_225_3, gR_225_4, gR_225_5, gR_225_6, gR_225_7, gR_225_8, gR_225_9, gR_225_10, gR_225_11, gR_225_12, gR_225_13, gR_225_14, gR_225_15, gR_225_16, gR_225_17, gR_225_18, gR_225_19, gR_225_20, gR_225_21, gR_225_35, gR_225_36, gR_225_38, gR_225_39, gR_225_40, gR_225_41, gR_225_43, gR_225_44, gR_225_45, gR_225_48, gR_225_49, gR_225_50, gR_225_51, gR_225_53, gR_225_54, gR_225_55, gR_225_56, gR_225_58, gR_225_59, gR_225_60, gR_225_61, gR_225_62, gR_225_63, gR_225_66, gR_225_67, bq_n, bd_s, mp_s, rz_0, rz_1, bI_rz, h29, if_true, if_false, ite_true, ite_false, reduceIte, not_true, not_false, and_true, true_and, and_false, false_and, or_true, true_or, or_false, false_or, eq_self, k3]
    rw [lns_s]
    by_cases z : tS (tks T n i) = 4
    · rw [if_pos z, if_pos (by rw [z])]
      exact ⟨σ, rfl, Fr.rfl, hW, r2, r4, r5, h23, h29, r1.1.1.2.2.2.2⟩
    · rw [if_neg z, if_neg (by rw [eq_nI (by omega) (by omega)]; exact z)]
      obtain ⟨τ, t1, t2, t3⟩ := m_line r1 r2 r3 r4 r5
      rw [t1]
      simp only [bq_n, bd_s, mp_s, rz_0, rz_1, bI_rz]
      cases e : lin (tks T n) i E td o with
      | inl x =>
        rw [e] at t3
        have t3 : XpF τ T n x.1 x.2 := t3
        have hW1 := t3.1
        refine ⟨τ, ?_, t2, t3⟩
        obtain ⟨fu, rfl⟩ : ∃ q, fu = q + 1 := ⟨fu - 1, by omega⟩
        have e1 : f_X12_text_179 (fu + 1) 225 τ = f_X12_text_179_b (f_X12_text_179 fu) 225 τ := rfl
        rw [e1]
        unfold f_X12_text_179_b
        simp only [to_bq, l_0, l_1, l_2, l_3, l_4, l_5, l_6, l_7, l_8, l_9, l_10, l_11, l_12, l_13, l_14, l_15, l_16, l_17, l_18, l_19, l_20, l_21, l_22, l_23, l_24, l_25, l_26, l_27, l_28, l_29, l_30, l_31, l_32, l_40, l_41, l_42, l_43, l_44, l_45, l_46, l_47, l_48, l_49, l_50, l_51, l_52, l_53, l_54, l_55, l_56, l_57, l_58, l_59, l_60, l_61, l_62, l_63, l_64, l_72, l_97, l_99, l_100, l_104, l_120, l_122, l_128, l_140, l_255, l_256, l_257, l_258, l_260, l_261, l_262, l_364, l_680, l_700, l_701, l_840, l_999, l_1023, l_1024, l_9999, l_10000, l_1000000, lm]
        simp (disch := first | (with_reducible assumption) | omega | exact ⟨by omega, by omega⟩ | ((with_reducible first | apply Wf.wI | apply Wf.wL | apply Wf.fL | apply Wf.fI | apply Wf.fr); (repeat (with_reducible first | assumption | apply Wf.wI | apply Wf.wL | apply Wf.fL | apply Wf.fI | apply Wf.fr)))) only [ck_225, gI_225, gL_225, pI_225, pZ0_225, pZ1_225, pL_225, gR_225_1, gR_225_3, gR_225_4, gR_225_5, gR_225_6, gR_225_7, gR_225_8, gR_225_9, gR_225_10, gR_225_11, gR_225_12, gR_225_13, gR_225_14, gR_225_15, gR_225_16, gR_225_17, gR_225_18, gR_225_19, gR_225_20, gR_225_21, gR_225_35, gR_225_36, gR_225_38, gR_225_39, gR_225_40, gR_225_41, gR_225_43, gR_225_44, gR_225_45, gR_225_48, gR_225_49, gR_225_50, gR_225_51, gR_225_53, gR_225_54, gR_225_55, gR_225_56, gR_225_58, gR_225_59, gR_225_60, gR_225_61, gR_225_62, gR_225_63, gR_225_66, gR_225_67, bq_n, bd_s, mp_s, rz_0, rz_1, bI_rz, if_neg t3.ne]
      | inr q =>
        obtain ⟨i', E', td', o'⟩ := q
        rw [e] at t3
        obtain ⟨p1, p2, p3, p4, p5, p6⟩ := t3
        obtain ⟨l1, l2⟩ := lin_lt (tks_aft hN) e
        obtain ⟨υ, u1, u2, u3⟩ := ih i' E' td' o' (ls + 1) fu τ (by omega) (by omega) l2 ⟨p1, p2, p3, p4, p5⟩ (by rw [p6, h23, zadd])
        exact ⟨υ, u1, t2.trans u2, u3⟩
end
/-- numbers as a text begins -/
def dfv (j : Nat) : Int32 := if j = 4 ∨ j = 5 then mI 1 else if j = 6 ∨ j = 10 then nI 1 else if j = 7 then nI 9 else if j = 8 then nI 2 else if j = 9 then nI 8 else nI 0
def IsE0 (E : DD) : Prop := (∀ j, j < 12 → E 227 j = dfv j) ∧ ∀ q, q < 3 → E 242 q = nI 0 ∧ E 243 q = nI 0
section
variable {σ τ : ah_H} {T : Nat → Nat} {n i N : Nat} {E : DD} {td : Nat} {o : List (Nat × Nat)}
theorem IsE0.nn (h : IsE0 E) : nC E = 0 ∧ nS E = 0 ∧ nP E = 0 ∧ nR E = 0 ∧ nK E = 0 ∧ lf E = 1 ∧ mf E = 9 ∧ lc E = 2 ∧ mc E = 8 ∧ ct E = 1 := by
  unfold nC nS nP nR nK lf mf lc mc ct
  rw [h.1 0 (by omega), h.1 1 (by omega), h.1 2 (by omega), h.1 3 (by omega), h.1 11 (by omega), h.1 6 (by omega), h.1 7 (by omega), h.1 8 (by omega), h.1 9 (by omega), h.1 10 (by omega)]
  decide
theorem IsE0.ln (h : IsE0 E) : LnI E 0 [] := by
  obtain ⟨n0, n1, n2, n3, n4, n5, n6, n7, n8, n9⟩ := h.nn
  refine ⟨⟨⟨?_, ?_, ?_, ?_, Or.inl ⟨h.1 4 (by omega), h.1 5 (by omega)⟩, ?_, ?_, by omega, ?_, ?_, by omega, ?_, ?_⟩, fun c hc => by omega, fun c hc => by omega, fun c hc => by omega, fun c hc => by omega, fun c hc => by omega, fun k hk => ?_⟩, by decide, ⟨by decide, h.1 11 (by omega), fun j hj => absurd hj (Nat.not_lt_zero j)⟩, fun q hq => ?_⟩
  · rw [h.1 0 (by omega)]; exact ⟨by decide, by decide⟩
  · rw [h.1 1 (by omega)]; exact ⟨by decide, by decide⟩
  · rw [h.1 2 (by omega)]; exact ⟨by decide, by decide⟩
  · rw [h.1 3 (by omega)]; exact ⟨by decide, by decide⟩
  · rw [h.1 6 (by omega)]; exact ⟨by decide, by decide⟩
  · rw [h.1 7 (by omega)]; exact ⟨by decide, by decide⟩
  · rw [h.1 8 (by omega)]; exact ⟨by decide, by decide⟩
  · rw [h.1 9 (by omega)]; exact ⟨by decide, by decide⟩
  · rw [h.1 10 (by omega)]; exact ⟨by decide, by decide⟩
  · rw [h.1 11 (by omega)]; exact ⟨by decide, by decide⟩
  · unfold LawOK
    rw [(h.2 k hk).1, (h.2 k hk).2, n4]
    exact ⟨⟨by decide, by decide⟩, ⟨by decide, by decide⟩, by decide, by decide, fun z => absurd z (by decide)⟩
  · rw [(h.2 q hq).1, (h.2 q hq).2]
    exact ⟨fun z => by simp at z, fun z => absurd z (by decide)⟩
def Xti (a j : Nat) : Prop := a = 225 ∧ (j = 0 ∨ j = 2 ∨ 22 ≤ j ∧ j ≤ 34) ∨ 227 ≤ a ∧ a ≤ 245 ∧ hf a ≤ j
/-- the numbers are set -/
theorem m_47 : ∀ m k fu (τ : ah_H), k + m = 12 → m < fu → Wf τ → (∀ j, j < k → ah_I τ 227 (12 + j) = dfv j) → ∃ υ, f_X12_text_47 fu 225 (nI k) τ = f_X12_text_127 225 υ ∧ Fr (fun a j => a = 227 ∧ 12 ≤ j) τ υ ∧ ∀ j, j < 12 → ah_I υ 227 (12 + j) = dfv j := by
  intro m
  induction m with
  | zero =>
    intro k fu τ hk hf hw e
    obtain ⟨fu, rfl⟩ : ∃ q, fu = q + 1 := ⟨fu - 1, by omega⟩
    obtain rfl : k = 12 := by omega
    refine ⟨τ, ?_, Fr.rfl, e⟩
    show f_X12_text_47_b _ _ _ _ = _
    unfold f_X12_text_47_b
    rw [show (12 : Int32) = nI 12 from l_12, if_pos (Int32.le_refl _)]
  | succ m ih =>
    intro k fu τ hk hf hw e
    obtain ⟨fu, rfl⟩ : ∃ q, fu = q + 1 := ⟨fu - 1, by omega⟩
    have g1 : Fr (fun a j => a = 227 ∧ 12 ≤ j) τ (ah_wI τ 227 (12 + k) (dfv k)) := Fr.rfl.wI ⟨rfl, by omega⟩
    obtain ⟨υ, u1, u2, u3⟩ := ih (k + 1) fu _ (by omega) (by omega) (hw.fr g1) (fun j hj => by
      by_cases z : j = k
      · rw [z, rI_eq]
      · rw [rI_ne (Or.inr (by omega))]; exact e j (by omega))
    refine ⟨υ, ?_, g1.trans u2, u3⟩
    have go : ∀ v, v = dfv k → f_X12_text_118 (f_X12_text_47 fu) 225 (nI k) 225 (nI k) v τ = f_X12_text_127 225 υ := fun v hv => by
      unfold f_X12_text_118
      rw [hv, m_rds hw (by omega), bd_s, l_1, zadd]
      exact u1
    show f_X12_text_47_b _ _ _ _ = _
    unfold f_X12_text_47_b f_X12_text_65 f_X12_text_81
    simp only [to_bq, l_0, l_1, l_2, l_3, l_4, l_5, l_6, l_7, l_8, l_9, l_10, l_11, l_12, l_13, l_14, l_15, l_16, l_17, l_18, l_19, l_20, l_21, l_22, l_23, l_24, l_25, l_26, l_27, l_28, l_29, l_30, l_31, l_32, l_40, l_41, l_42, l_43, l_44, l_45, l_46, l_47, l_48, l_49, l_50, l_51, l_52, l_53, l_54, l_55, l_56, l_57, l_58, l_59, l_60, l_61, l_62, l_63, l_64, l_72, l_97, l_99, l_100, l_104, l_120, l_122, l_128, l_140, l_255, l_256, l_257, l_258, l_260, l_261, l_262, l_364, l_680, l_700, l_701, l_840, l_999, l_1023, l_1024, l_9999, l_10000, l_1000000, lm]
    rw [if_neg (by rw [le_nI (by omega) (by omega)]; omega)]
    have cs : k = 0 ∨ k = 1 ∨ k = 2 ∨ k = 3 ∨ k = 4 ∨ k = 5 ∨ k = 6 ∨ k = 7 ∨ k = 8 ∨ k = 9 ∨ k = 10 ∨ k = 11 := by omega
    rcases cs with rfl | rfl | rfl | rfl | rfl | rfl | rfl | rfl | rfl | rfl | rfl | rfl
    all_goals (repeat (first | rw [if_pos rfl] | rw [if_neg (by decide)]))
    all_goals exact go _ rfl
theorem m_129 : ∀ m k fu (τ : ah_H), k + m = 6 → 3 ≤ k → m < fu → Wf τ → (∀ j, 3 ≤ j → j < k → ah_I τ 242 j = nI 0 ∧ ah_I τ 243 j = nI 0) → ∃ υ, f_X12_text_129 fu 225 (nI k) τ = f_X12_text_155 225 υ ∧ Fr (fun a j => (a = 242 ∨ a = 243) ∧ 3 ≤ j) τ υ ∧ ∀ j, 3 ≤ j → j < 6 → ah_I υ 242 j = nI 0 ∧ ah_I υ 243 j = nI 0 := by
  intro m
  induction m with
  | zero =>
    intro k fu τ hk hk3 hf hw e
    obtain ⟨fu, rfl⟩ : ∃ q, fu = q + 1 := ⟨fu - 1, by omega⟩
    obtain rfl : k = 6 := by omega
    refine ⟨τ, ?_, Fr.rfl, e⟩
    show f_X12_text_129_b _ _ _ _ = _
    unfold f_X12_text_129_b
    rw [show (6 : Int32) = nI 6 from l_6, if_pos (Int32.le_refl _)]
  | succ m ih =>
    intro k fu τ hk hk3 hf hw e
    obtain ⟨fu, rfl⟩ : ∃ q, fu = q + 1 := ⟨fu - 1, by omega⟩
    have g1 : Fr (fun a j => (a = 242 ∨ a = 243) ∧ 3 ≤ j) τ (ah_wI (ah_wI τ 242 k (nI 0)) 243 k (nI 0)) := (Fr.rfl.wI (by omega)).wI (by omega)
    obtain ⟨υ, u1, u2, u3⟩ := ih (k + 1) fu _ (by omega) (by omega) (by omega) (hw.fr g1) (fun j h1 hj => by
      by_cases z : j = k
      · rw [z, rI_eq, rI_ne (Or.inl (by omega)), rI_eq]; exact ⟨rfl, rfl⟩
      · rw [rI_ne (Or.inl (by omega)), rI_ne (Or.inr (by omega)), rI_ne (Or.inr (by omega)), rI_ne (Or.inl (by omega))]; exact e j h1 (by omega))
    refine ⟨υ, ?_, g1.trans u2, u3⟩
    show f_X12_text_129_b _ _ _ _ = _
    unfold f_X12_text_129_b
    simp only [to_bq, l_0, l_1, l_2, l_3, l_4, l_5, l_6, l_7, l_8, l_9, l_10, l_11, l_12, l_13, l_14, l_15, l_16, l_17, l_18, l_19, l_20, l_21, l_22, l_23, l_24, l_25, l_26, l_27, l_28, l_29, l_30, l_31, l_32, l_40, l_41, l_42, l_43, l_44, l_45, l_46, l_47, l_48, l_49, l_50, l_51, l_52, l_53, l_54, l_55, l_56, l_57, l_58, l_59, l_60, l_61, l_62, l_63, l_64, l_72, l_97, l_99, l_100, l_104, l_120, l_122, l_128, l_140, l_255, l_256, l_257, l_258, l_260, l_261, l_262, l_364, l_680, l_700, l_701, l_840, l_999, l_1023, l_1024, l_9999, l_10000, l_1000000, lm]
    rw [if_neg (by rw [le_nI (by omega) (by omega)]; omega), gR_225_18 hw, bq_s, sI_242 hw (by omega), bq_s, gR_225_19 (hw.wI _ _ _), bq_s, sI_243 (hw.wI _ _ _) (by omega), bq_s, zadd]
    exact u1
end
