/-! LINES OF THE REFERENCE: law -/
def mfin (k : Nat → TK) (m : MS) (r : Sum (Nat × Nat) MS) : Prop := match r with
  | .inl x => mfl k m x.1 x.2
  | .inr e => men k m e
noncomputable def mres (k : Nat → TK) (m : MS) : Sum (Nat × Nat) MS := Classical.epsilon (mfin k m)
section
variable {k : Nat → TK}
theorem mrc_st : ∀ t u m r, mrc k t m = r → (∀ m', r ≠ .inr (.inr m')) → mrc k (t + u) m = r := by
  intro t
  induction t with
  | zero => intro u m r h hn; exact absurd h.symm (hn m)
  | succ t ih =>
    intro u m r h hn
    rw [show t + 1 + u = (t + u) + 1 by omega]
    have e1 : ∀ t m, mrc k (t + 1) m = match mst k m with
      | .inl f => .inl f
      | .inr (.inl e) => .inr (.inl e)
      | .inr (.inr m') => mrc k t m' := fun t m => rfl
    rw [e1] at h ⊢
    cases e : mst k m with
    | inl f => rw [e] at h; exact h
    | inr q =>
      cases q with
      | inl x => rw [e] at h; exact h
      | inr m2 => rw [e] at h; exact ih u m2 r h hn
theorem mfin_u {m : MS} {r r' : Sum (Nat × Nat) MS} (h : mfin k m r) (h' : mfin k m r') : r = r' := by
  have key : ∀ r, mfin k m r → ∃ t, ∀ u, mrc k (t + u) m = (match r with
    | .inl x => .inl x
    | .inr e => .inr (.inl e) : MR) := by
    intro r h
    cases r with
    | inl x =>
      obtain ⟨t, ht⟩ := h
      exact ⟨t, fun u => mrc_st t u m _ ht (fun m' z => nomatch z)⟩
    | inr e =>
      obtain ⟨t, ht⟩ := h
      exact ⟨t, fun u => mrc_st t u m _ ht (fun m' z => nomatch z)⟩
  obtain ⟨t, ht⟩ := key r h
  obtain ⟨u, hu⟩ := key r' h'
  have e := (ht u).symm.trans ((by rw [Nat.add_comm t u] : mrc k (t + u) m = mrc k (u + t) m).trans (hu t))
  cases r with
  | inl x =>
    cases r' with
    | inl y => cases e; rfl
    | inr y => cases e
  | inr x =>
    cases r' with
    | inl y => cases e
    | inr y => cases e; rfl
theorem mres_e {m : MS} {r : Sum (Nat × Nat) MS} (h : mfin k m r) : mres k m = r := mfin_u (Classical.epsilon_spec ⟨r, h⟩) h
theorem mres_f {m : MS} {f j : Nat} (h : mfl k m f j) : mres k m = .inl (f, j) := mres_e (r := .inl (f, j)) h
theorem mres_n {m e : MS} (h : men k m e) : mres k m = .inr e := mres_e (r := .inr e) h
theorem men_semi {m e : MS} (h : men k m e) : tS (k e.1) = 3 ∧ tV (k e.1) = 59 := by
  obtain ⟨t, ht⟩ := h
  induction t generalizing m with
  | zero => exact nomatch ht
  | succ t ih =>
    have e1 : mrc k (t + 1) m = match mst k m with
      | .inl f => .inl f
      | .inr (.inl e) => .inr (.inl e)
      | .inr (.inr m') => mrc k t m' := rfl
    rw [e1] at ht
    cases e2 : mst k m with
    | inl f => rw [e2] at ht; cases ht
    | inr q =>
      cases q with
      | inr m2 => rw [e2] at ht; exact ih ht
      | inl x =>
        rw [e2] at ht
        cases ht
        obtain ⟨i, o, S, p, c, d⟩ := m
        cases d with
        | true =>
          exfalso
          unfold mst at e2
          simp only at e2
          repeat' split at e2
          all_goals cases e2
        | false =>
          have e3 : mst k (i, o, S, p, c, false) = if (tS (k i) = 3 ∧ tV (k i) = 59) ∧ p = 0 then .inr (.inl (i, (rels 1 S o).1, (rels 1 S o).2, p, c, false))
    else if (tS (k i) = 3 ∧ tV (k i) = 41) ∧ 0 < p then .inr (.inr (i + 1, (rels 1 S o).1, (rels 1 S o).2.tail, p - 1, c, false))
    else if bnd (jsg (k i)) = 0 then .inl (1, i)
    else if bnd (jsg (k i)) = 4 then (if topb (rels 5 S o).2 = 4 then .inl (1, i) else jon i (rels 5 S o).1 (rels 5 S o).2 p c (jsg (k i)))
    else jon i o S p c (jsg (k i)) := rfl
          rw [e3] at e2
          by_cases z : (tS (k i) = 3 ∧ tV (k i) = 59) ∧ p = 0
          · rw [if_pos z] at e2
            cases e2
            exact z.1
          · exfalso
            rw [if_neg z] at e2
            unfold jon at e2
            repeat' split at e2
            all_goals cases e2
end
abbrev LnT := Sum (Nat × Nat) (Nat × DD × Nat × List (Nat × Nat))
noncomputable def sLaw (k : Nat → TK) (i : Nat) (E : DD) (td : Nat) (o : List (Nat × Nat)) : LnT :=
  if tS (k i) = 0 ∧ 12 ≤ tV (k i) ∧ tV (k i) ≤ 14 then
    (if td.testBit (16 + (tV (k i) - 12)) = true then .inl (3, i) else
      match mres k (i + 1, o, [], 0, o.length, true) with
      | .inl x => .inl x
      | .inr e => .inr (e.1, eLaw E (tV (k i) - 12) o e.2.1, td ||| 2 ^ (16 + (tV (k i) - 12)), e.2.1))
  else .inl (1, i)
/-- knots that are told -/
def RKn (σ : ah_H) (o : List (Nat × Nat)) : Prop := ah_I σ 225 33 = nI 0 ∧ ah_I σ 225 34 = nI o.length ∧ ∀ j, j < o.length → ah_I σ 244 (64 + j) = nI (o.getD j (0, 0)).1 ∧ ah_I σ 245 (64 + j) = nI (o.getD j (0, 0)).2
section
variable {σ τ : ah_H} {T : Nat → Nat} {n i : Nat} {s : LnS} {E E' : DD} {td : Nat} {o : List (Nat × Nat)}
theorem RKn.fr {X : Nat → Nat → Prop} (h : RKn σ o) (g : Fr X σ τ) (hX : ∀ a j, X a j → ¬ (a = 225 ∧ (j = 33 ∨ j = 34)) ∧ a ≠ 244 ∧ a ≠ 245) : RKn τ o := ⟨(g.I (fun z => by have := hX _ _ z; omega)).trans h.1, (g.I (fun z => by have := hX _ _ z; omega)).trans h.2.1, fun j hj => ⟨(g.I (fun z => by have := hX _ _ z; omega)).trans (h.2.2 j hj).1, (g.I (fun z => by have := hX _ _ z; omega)).trans (h.2.2 j hj).2⟩⟩
theorem Fr.xw {a j : Nat} {v : Int32} (g : Fr Xtx σ τ) (ha : 227 ≤ a) (ha2 : a ≤ 245) (hj : hf a ≤ j) : Fr Xtx σ (ah_wI τ a j v) := g.wI (Or.inr ⟨ha, ha2, hj⟩)
theorem Fr.xf {υ : ah_H} (g : Fr Xtx σ τ) (g2 : Fr Xfp τ υ) : Fr Xtx σ υ := g.trans (g2.mono Xfp_t)
theorem Xxp_t : ∀ a j, Xxp a j → Xtx a j := by
  intro a j z
  unfold Xxp at z
  rcases z with ⟨z1, z2⟩ | ⟨z1, z2⟩ | ⟨z1 | z1, z2⟩
  · exact Or.inl ⟨z1, by omega⟩
  · subst z1; exact Or.inr ⟨by omega, by omega, show 12 ≤ j by omega⟩
  · subst z1; exact Or.inr ⟨by omega, by omega, z2⟩
  · subst z1; exact Or.inr ⟨by omega, by omega, z2⟩
/-- the line went as sLaw says -/
theorem m_lawL (h : RSt σ T n (i, none)) (hE : RdE σ E) (htd : ah_I σ 225 22 = nI td) (htb : td < 2 ^ 24) (hK : KnE E o) (hkn : RKn σ o) : ∃ τ, f_X12_lawLine 225 σ = some τ ∧ Fr Xtx σ τ ∧ ((∃ f j, sLaw (tks T n) i E td o = .inl (f, j) ∧ (XpF τ T n f j ∨ RSt τ T n (j, none) ∧ f = 1 ∧ ¬ (tS (tks T n j) = 3 ∧ tV (tks T n j) = 59))) ∨ (∃ i' E' td' o', sLaw (tks T n) i E td o = .inr (i', E', td', o') ∧ RSt τ T n (i', none) ∧ (tS (tks T n i') = 3 ∧ tV (tks T n i') = 59) ∧ RdE τ E' ∧ ah_I τ 225 22 = nI td' ∧ td' < 2 ^ 24 ∧ RKn τ o' ∧ ∃ g q, o' = o ++ g ∧ seg1 g ∧ o'.length ≤ 64 ∧ q < 3 ∧ E' = eLaw E q o o' ∧ td.testBit (16 + q) ≠ true ∧ td' = td ||| 2 ^ (16 + q))) := by
  have hW := h.w
  have hv := h.1.v
  have hs := (tks_n (T := T) (n := n) i).2.2
  obtain ⟨k1, k2, k3, k4⟩ := h.1.2
  have h29 := h.2
  unfold f_X12_lawLine f_X12_lawLine_0
  simp only [to_bq, l_0, l_1, l_2, l_3, l_4, l_5, l_6, l_7, l_8, l_9, l_10, l_11, l_12, l_13, l_14, l_15, l_16, l_17, l_18, l_19, l_20, l_21, l_22, l_23, l_24, l_25, l_26, l_27, l_28, l_29, l_30, l_31, l_32, l_40, l_41, l_42, l_43, l_44, l_45, l_46, l_47, l_48, l_49, l_50, l_51, l_52, l_53, l_54, l_55, l_56, l_57, l_58, l_59, l_60, l_61, l_62, l_63, l_64, l_72, l_97, l_99, l_100, l_104, l_120, l_122, l_128, l_140, l_255, l_256, l_257, l_258, l_260, l_261, l_262, l_364, l_680, l_700, l_701, l_840, l_999, l_1023, l_1024, l_9999, l_10000, l_1000000, lm]
  simp (disch := first | (with_reducible assumption) | omega | exact ⟨by omega, by omega⟩ | ((with_reducible first | apply Wf.wI | apply Wf.wL | apply Wf.fL | apply Wf.fI | apply Wf.fr); (repeat (with_reducible first | assumption | apply Wf.wI | apply Wf.wL | apply Wf.fL | apply Wf.fI | apply Wf.fr)))) only [ck_225, gI_225, gL_225, pI_225, pZ0_225, pZ1_225, pL_225, gR_225_1, gR_225_3, gR_225_4, gR_225_5, gR_225_6, gR_225_7, gR_225_8, gR_225_9, gR_225_10, gR_225_11, gR_225_12, gR_225_13, gR_225_14, gR_225_15, gR_225_16, gR_225_17, gR_225_18, gR_225_19, gR_225_20, gR_225_21, gR_225_35, gR_225_36, gR_225_38, gR_225_39, gR_225_40, gR_225_41, gR_225_43, gR_225_44, gR_225_45, gR_225_48, gR_225_49, gR_225_50, gR_225_51, gR_225_53, gR_225_54, gR_225_55, gR_225_56, gR_225_58, gR_225_59, gR_225_60, gR_225_61, gR_225_62, gR_225_63, gR_225_66, gR_225_67, bq_n, bd_s, mp_s, rz_0, rz_1, bI_rz, k3]
  have bad : ¬ (tS (tks T n i) = 0 ∧ 12 ≤ tV (tks T n i) ∧ tV (tks T n i) ≤ 14) → ∃ τ, f_X12_lawLine_25 225 σ = some τ ∧ Fr Xtx σ τ ∧ (∃ f j, sLaw (tks T n) i E td o = .inl (f, j) ∧ (XpF τ T n f j ∨ RSt τ T n (j, none) ∧ f = 1 ∧ ¬ (tS (tks T n j) = 3 ∧ tV (tks T n j) = 59))) := by
    intro z
    obtain ⟨σ1, w1, w2, w3⟩ := m_errS h (f := 1) (by omega) (by omega)
    have wW := w3.w
    refine ⟨σ1, ?_, (w2.mono Xwr_f).mono Xfp_t, 1, i, if_neg z, Or.inl w3⟩
    unfold f_X12_lawLine_25 f_X12_lawLine_30
    simp only [to_bq, l_0, l_1, l_2, l_3, l_4, l_5, l_6, l_7, l_8, l_9, l_10, l_11, l_12, l_13, l_14, l_15, l_16, l_17, l_18, l_19, l_20, l_21, l_22, l_23, l_24, l_25, l_26, l_27, l_28, l_29, l_30, l_31, l_32, l_40, l_41, l_42, l_43, l_44, l_45, l_46, l_47, l_48, l_49, l_50, l_51, l_52, l_53, l_54, l_55, l_56, l_57, l_58, l_59, l_60, l_61, l_62, l_63, l_64, l_72, l_97, l_99, l_100, l_104, l_120, l_122, l_128, l_140, l_255, l_256, l_257, l_258, l_260, l_261, l_262, l_364, l_680, l_700, l_701, l_840, l_999, l_1023, l_1024, l_9999, l_10000, l_1000000, lm]
    rw [w1]
    simp (disch := first | (with_reducible assumption) | omega | exact ⟨by omega, by omega⟩ | ((with_reducible first | apply Wf.wI | apply Wf.wL | apply Wf.fL | apply Wf.fI | apply Wf.fr); (repeat (with_reducible first | assumption | apply Wf.wI | apply Wf.wL | apply Wf.fL | apply Wf.fI | apply Wf.fr)))) only [ck_225, gI_225, gL_225, pI_225, pZ0_225, pZ1_225, pL_225, gR_225_1, gR_225_3, gR_225_4, gR_225_5, gR_225_6, gR_225_7, gR_225_8, gR_225_9, gR_225_10, gR_225_11, gR_225_12, gR_225_13, gR_225_14, gR_225_15, gR_225_16, gR_225_17, gR_225_18, gR_225_19, gR_225_20, gR_225_21, gR_225_35, gR_225_36, gR_225_38, gR_225_39, gR_225_40, gR_225_41, gR_225_43, gR_225_44, gR_225_45, gR_225_48, gR_225_49, gR_225_50, gR_225_51, gR_225_53, gR_225_54, gR_225_55, gR_225_56, gR_225_58, gR_225_59, gR_225_60, gR_225_61, gR_225_62, gR_225_63, gR_225_66, gR_225_67, bq_n, bd_s, mp_s, rz_0, rz_1, bI_rz, if_neg (RSt.ne w3)]
    unfold f_X12_lawLine_65
    simp only [to_bq, l_0, l_1, l_2, l_3, l_4, l_5, l_6, l_7, l_8, l_9, l_10, l_11, l_12, l_13, l_14, l_15, l_16, l_17, l_18, l_19, l_20, l_21, l_22, l_23, l_24, l_25, l_26, l_27, l_28, l_29, l_30, l_31, l_32, l_40, l_41, l_42, l_43, l_44, l_45, l_46, l_47, l_48, l_49, l_50, l_51, l_52, l_53, l_54, l_55, l_56, l_57, l_58, l_59, l_60, l_61, l_62, l_63, l_64, l_72, l_97, l_99, l_100, l_104, l_120, l_122, l_128, l_140, l_255, l_256, l_257, l_258, l_260, l_261, l_262, l_364, l_680, l_700, l_701, l_840, l_999, l_1023, l_1024, l_9999, l_10000, l_1000000, lm]
    simp (disch := first | (with_reducible assumption) | omega | exact ⟨by omega, by omega⟩ | ((with_reducible first | apply Wf.wI | apply Wf.wL | apply Wf.fL | apply Wf.fI | apply Wf.fr); (repeat (with_reducible first | assumption | apply Wf.wI | apply Wf.wL | apply Wf.fL | apply Wf.fI | apply Wf.fr)))) only [ck_225, gI_225, gL_225, pI_225, pZ0_225, pZ1_225, pL_225, gR_225_1, gR_225_3, gR_225_4, gR_225_5, gR_225_6, gR_225_7, gR_225_8, gR_225_9, gR_225_10, gR_225_11, gR_225_12, gR_225_13, gR_225_14, gR_225_15, gR_225_16, gR_225_17, gR_225_18, gR_225_19, gR_225_20, gR_225_21, gR_225_35, gR_225_36, gR_225_38, gR_225_39, gR_225_40, gR_225_41, gR_225_43, gR_225_44, gR_225_45, gR_225_48, gR_225_49, gR_225_50, gR_225_51, gR_225_53, gR_225_54, gR_225_55, gR_225_56, gR_225_58, gR_225_59, gR_225_60, gR_225_61, gR_225_62, gR_225_63, gR_225_66, gR_225_67, bq_n, bd_s, mp_s, rz_0, rz_1, bI_rz, if_neg (RSt.ne w3)]
  by_cases z0 : tS (tks T n i) = 0
  · have hvb := hv.1 z0
    rw [if_pos (by rw [z0]), k4 (by omega)]
    by_cases z1 : tV (tks T n i) < 12
    · rw [if_pos (by rw [lt_nI (by omega) (by omega)]; exact z1)]
      obtain ⟨τ, t1, t2, t3⟩ := bad (by omega)
      exact ⟨τ, t1, t2, Or.inl t3⟩
    · rw [if_neg (by rw [lt_nI (by omega) (by omega)]; exact z1)]
      by_cases z2 : tV (tks T n i) ≤ 14
      · rw [if_pos (by rw [le_nI (by omega) (by omega)]; exact z2)]
        obtain ⟨q, hq⟩ : ∃ q, q = tV (tks T n i) - 12 := ⟨_, rfl⟩
        have hq3 : q < 3 := by omega
        have eL : sLaw (tks T n) i E td o = (if td.testBit (16 + q) = true then .inl (3, i) else
      match mres (tks T n) (i + 1, o, [], 0, o.length, true) with
      | .inl x => .inl x
      | .inr e => .inr (e.1, eLaw E q o e.2.1, td ||| 2 ^ (16 + q), e.2.1)) := by
          unfold sLaw; rw [if_pos ⟨z0, by omega, z2⟩, ← hq]
        have ev : nI (tV (tks T n i)) - nI 12 = nI q := by rw [zsub (by omega)]; rw [hq]
        unfold f_X12_lawLine_30
        simp only [to_bq, l_0, l_1, l_2, l_3, l_4, l_5, l_6, l_7, l_8, l_9, l_10, l_11, l_12, l_13, l_14, l_15, l_16, l_17, l_18, l_19, l_20, l_21, l_22, l_23, l_24, l_25, l_26, l_27, l_28, l_29, l_30, l_31, l_32, l_40, l_41, l_42, l_43, l_44, l_45, l_46, l_47, l_48, l_49, l_50, l_51, l_52, l_53, l_54, l_55, l_56, l_57, l_58, l_59, l_60, l_61, l_62, l_63, l_64, l_72, l_97, l_99, l_100, l_104, l_120, l_122, l_128, l_140, l_255, l_256, l_257, l_258, l_260, l_261, l_262, l_364, l_680, l_700, l_701, l_840, l_999, l_1023, l_1024, l_9999, l_10000, l_1000000, lm]
        simp (disch := first | (with_reducible assumption) | omega | exact ⟨by omega, by omega⟩ | ((with_reducible first | apply Wf.wI | apply Wf.wL | apply Wf.fL | apply Wf.fI | apply Wf.fr); (repeat (with_reducible first | assumption | apply Wf.wI | apply Wf.wL | apply Wf.fL | apply Wf.fI | apply Wf.fr)))) only [ck_225, gI_225, gL_225, pI_225, pZ0_225, pZ1_225, pL_225, gR_225_1, gR_225_3, gR_225_4, gR_225_5, gR_225_6, gR_225_7, gR_225_8, gR_225_9, gR_225_10, gR_225_11, gR_225_12, gR_225_13, gR_225_14, gR_225_15, gR_225_16, gR_225_17, gR_225_18, gR_225_19, gR_225_20, gR_225_21, gR_225_35, gR_225_36, gR_225_38, gR_225_39, gR_225_40, gR_225_41, gR_225_43, gR_225_44, gR_225_45, gR_225_48, gR_225_49, gR_225_50, gR_225_51, gR_225_53, gR_225_54, gR_225_55, gR_225_56, gR_225_58, gR_225_59, gR_225_60, gR_225_61, gR_225_62, gR_225_63, gR_225_66, gR_225_67, bq_n, bd_s, mp_s, rz_0, rz_1, bI_rz, h29, if_true, if_false, ite_true, ite_false, reduceIte, not_true, not_false, and_true, true_and, and_false, false_and, or_true, true_or, or_false, false_or, eq_self, k4, htd, ev]
        rw [zadd]
        have htb31 : td < 2147483648 := by omega
        have zb := z_bit1 (m := td) (c := 16 + q) htb31 (by omega)
        by_cases y : td.testBit (16 + q) = true
        · rw [if_pos (by rw [zb]; exact y)]
          obtain ⟨σ1, w1, w2, w3⟩ := m_errS h (f := 3) (by omega) (by omega)
          have wW := w3.w
          refine ⟨σ1, ?_, (w2.mono Xwr_f).mono Xfp_t, Or.inl ⟨3, i, by rw [eL, if_pos y], Or.inl w3⟩⟩
          rw [w1]
          simp (disch := first | (with_reducible assumption) | omega | exact ⟨by omega, by omega⟩ | ((with_reducible first | apply Wf.wI | apply Wf.wL | apply Wf.fL | apply Wf.fI | apply Wf.fr); (repeat (with_reducible first | assumption | apply Wf.wI | apply Wf.wL | apply Wf.fL | apply Wf.fI | apply Wf.fr)))) only [bq_n, bd_s, mp_s, rz_0, rz_1, bI_rz]
          unfold f_X12_lawLine_65
          simp only [to_bq, l_0, l_1, l_2, l_3, l_4, l_5, l_6, l_7, l_8, l_9, l_10, l_11, l_12, l_13, l_14, l_15, l_16, l_17, l_18, l_19, l_20, l_21, l_22, l_23, l_24, l_25, l_26, l_27, l_28, l_29, l_30, l_31, l_32, l_40, l_41, l_42, l_43, l_44, l_45, l_46, l_47, l_48, l_49, l_50, l_51, l_52, l_53, l_54, l_55, l_56, l_57, l_58, l_59, l_60, l_61, l_62, l_63, l_64, l_72, l_97, l_99, l_100, l_104, l_120, l_122, l_128, l_140, l_255, l_256, l_257, l_258, l_260, l_261, l_262, l_364, l_680, l_700, l_701, l_840, l_999, l_1023, l_1024, l_9999, l_10000, l_1000000, lm]
          simp (disch := first | (with_reducible assumption) | omega | exact ⟨by omega, by omega⟩ | ((with_reducible first | apply Wf.wI | apply Wf.wL | apply Wf.fL | apply Wf.fI | apply Wf.fr); (repeat (with_reducible first | assumption | apply Wf.wI | apply Wf.wL | apply Wf.fL | apply Wf.fI | apply Wf.fr)))) only [ck_225, gI_225, gL_225, pI_225, pZ0_225, pZ1_225, pL_225, gR_225_1, gR_225_3, gR_225_4, gR_225_5, gR_225_6, gR_225_7, gR_225_8, gR_225_9, gR_225_10, gR_225_11, gR_225_12, gR_225_13, gR_225_14, gR_225_15, gR_225_16, gR_225_17, gR_225_18, gR_225_19, gR_225_20, gR_225_21, gR_225_35, gR_225_36, gR_225_38, gR_225_39, gR_225_40, gR_225_41, gR_225_43, gR_225_44, gR_225_45, gR_225_48, gR_225_49, gR_225_50, gR_225_51, gR_225_53, gR_225_54, gR_225_55, gR_225_56, gR_225_58, gR_225_59, gR_225_60, gR_225_61, gR_225_62, gR_225_63, gR_225_66, gR_225_67, bq_n, bd_s, mp_s, rz_0, rz_1, bI_rz, if_neg (RSt.ne w3)]
        · rw [if_neg (by rw [zb]; exact y)]
          rw [if_neg y] at eL
          unfold f_X12_lawLine_65
          simp only [to_bq, l_0, l_1, l_2, l_3, l_4, l_5, l_6, l_7, l_8, l_9, l_10, l_11, l_12, l_13, l_14, l_15, l_16, l_17, l_18, l_19, l_20, l_21, l_22, l_23, l_24, l_25, l_26, l_27, l_28, l_29, l_30, l_31, l_32, l_40, l_41, l_42, l_43, l_44, l_45, l_46, l_47, l_48, l_49, l_50, l_51, l_52, l_53, l_54, l_55, l_56, l_57, l_58, l_59, l_60, l_61, l_62, l_63, l_64, l_72, l_97, l_99, l_100, l_104, l_120, l_122, l_128, l_140, l_255, l_256, l_257, l_258, l_260, l_261, l_262, l_364, l_680, l_700, l_701, l_840, l_999, l_1023, l_1024, l_9999, l_10000, l_1000000, lm]
          simp (disch := first | (with_reducible assumption) | omega | exact ⟨by omega, by omega⟩ | ((with_reducible first | apply Wf.wI | apply Wf.wL | apply Wf.fL | apply Wf.fI | apply Wf.fr); (repeat (with_reducible first | assumption | apply Wf.wI | apply Wf.wL | apply Wf.fL | apply Wf.fI | apply Wf.fr)))) only [ck_225, gI_225, gL_225, pI_225, pZ0_225, pZ1_225, pL_225, gR_225_1, gR_225_3, gR_225_4, gR_225_5, gR_225_6, gR_225_7, gR_225_8, gR_225_9, gR_225_10, gR_225_11, gR_225_12, gR_225_13, gR_225_14, gR_225_15, gR_225_16, gR_225_17, gR_225_18, gR_225_19, gR_225_20, gR_225_21, gR_225_35, gR_225_36, gR_225_38, gR_225_39, gR_225_40, gR_225_41, gR_225_43, gR_225_44, gR_225_45, gR_225_48, gR_225_49, gR_225_50, gR_225_51, gR_225_53, gR_225_54, gR_225_55, gR_225_56, gR_225_58, gR_225_59, gR_225_60, gR_225_61, gR_225_62, gR_225_63, gR_225_66, gR_225_67, bq_n, bd_s, mp_s, rz_0, rz_1, bI_rz, h29, if_true, if_false, ite_true, ite_false, reduceIte, not_true, not_false, and_true, true_and, and_false, false_and, or_true, true_or, or_false, false_or, eq_self, htd, zadd]
          rw [z_set (m := td) (c := 16 + q) (by omega)]
          have td2 : td ||| 2 ^ (16 + q) < 2 ^ 24 := or_b htb (pw_b (by omega))
          have a3 := h.fr (X := fun x y => x = 225 ∧ y = 22) (τ := ah_wI σ 225 22 (nI (td ||| 2 ^ (16 + q)))) (Fr.rfl.wI ⟨rfl, rfl⟩) (fun x y z => by omega)
          have aF : Fr Xtx σ (ah_wI σ 225 22 (nI (td ||| 2 ^ (16 + q)))) := Fr.rfl.wI (by unfold Xtx; omega)
          have aE : RdE (ah_wI σ 225 22 (nI (td ||| 2 ^ (16 + q)))) E := hE.fr (X := fun x y => x = 225 ∧ y = 22) (Fr.rfl.wI ⟨rfl, rfl⟩) (fun x y _ _ _ z => by omega)
          have aK : RKn (ah_wI σ 225 22 (nI (td ||| 2 ^ (16 + q)))) o := hkn.fr (X := fun x y => x = 225 ∧ y = 22) (Fr.rfl.wI ⟨rfl, rfl⟩) (fun x y z => by omega)
          obtain ⟨σ1, b1, b2, b3⟩ := m_nextS a3 (w := tV (tks T n i)) ⟨rfl, z0, rfl⟩
          have b3 : RSt σ1 T n (i + 1, none) := b3
          have bE := aE.f b2
          have bF := aF.xf b2
          have bK : RKn σ1 o := aK.fr b2 (fun x y z => by unfold Xfp at z; omega)
          have bW := b3.w
          have b22 : ah_I σ1 225 22 = nI (td ||| 2 ^ (16 + q)) := (b2.I (by unfold Xfp; omega)).trans rI_eq
          rw [b1]
          simp (disch := first | (with_reducible assumption) | omega | exact ⟨by omega, by omega⟩ | ((with_reducible first | apply Wf.wI | apply Wf.wL | apply Wf.fL | apply Wf.fI | apply Wf.fr); (repeat (with_reducible first | assumption | apply Wf.wI | apply Wf.wL | apply Wf.fL | apply Wf.fI | apply Wf.fr)))) only [bq_n, bd_s, mp_s, rz_0, rz_1, bI_rz, ck_225, gI_225, gL_225, pI_225, pZ0_225, pZ1_225, pL_225, gR_225_1, gR_225_3, gR_225_4, gR_225_5, gR_225_6, gR_225_7, gR_225_8, gR_225_9, gR_225_10, gR_225_11, gR_225_12, gR_225_13, gR_225_14, gR_225_15, gR_225_16, gR_225_17, gR_225_18, gR_225_19, gR_225_20, gR_225_21, gR_225_35, gR_225_36, gR_225_38, gR_225_39, gR_225_40, gR_225_41, gR_225_43, gR_225_44, gR_225_45, gR_225_48, gR_225_49, gR_225_50, gR_225_51, gR_225_53, gR_225_54, gR_225_55, gR_225_56, gR_225_58, gR_225_59, gR_225_60, gR_225_61, gR_225_62, gR_225_63, gR_225_66, gR_225_67]
          have e11 := m_frs bW bE (k := 11) (by omega)
          rw [hK.2.1] at e11
          rw [e11]
          simp (disch := first | (with_reducible assumption) | omega | exact ⟨by omega, by omega⟩ | ((with_reducible first | apply Wf.wI | apply Wf.wL | apply Wf.fL | apply Wf.fI | apply Wf.fr); (repeat (with_reducible first | assumption | apply Wf.wI | apply Wf.wL | apply Wf.fL | apply Wf.fI | apply Wf.fr)))) only [bq_n, bd_s, mp_s, rz_0, rz_1, bI_rz, zadd, aI_242, sI_242, len_242]
          have c3 := b3.wr (a := 242) (j := 3 + q) (v := nI o.length) (by omega)
          have cE := bE.wr (a := 242) (j := q) (v := nI o.length) hq3
          have cF := bF.xw (a := 242) (j := 3 + q) (v := nI o.length) (by omega) (by omega) (Nat.le_add_right 3 _)
          have cK : RKn (ah_wI σ1 242 (3 + q) (nI o.length)) o := bK.fr (X := fun x y => x = 242) (Fr.rfl.wI rfl) (fun x y z => by omega)
          have cW := c3.w
          have hX : XpR (ah_wI σ1 242 (3 + q) (nI o.length)) T n (i + 1) o 0 o.length := ⟨c3.1, c3.2, cK.1, cK.2.1, hK.1, by omega, by omega, (cE 227 11 (by omega) (by omega) (by decide)).trans (by rw [up_a (by omega)]; exact hK.2.1), cK.2.2⟩
          obtain ⟨σ2, d1, d2, d3⟩ := m_expr hX
          have dF : Fr Xtx σ σ2 := cF.trans (d2.mono Xxp_t)
          rw [d1]
          rcases d3 with ⟨f, j, d3, d4⟩ | ⟨i', o', c', P, om, g, x1, x2, x3, x4, x5, x6, x7, x8⟩
          · have dW := d3.1
            have e11' : ∃ v, f_X12_fresher 225 (nI 11) σ2 = some (v, σ2) := by
              refine ⟨ah_I σ2 227 23, ?_⟩
              unfold f_X12_fresher f_X12_fresher_0
              simp only [to_bq, l_0, l_1, l_2, l_3, l_4, l_5, l_6, l_7, l_8, l_9, l_10, l_11, l_12, l_13, l_14, l_15, l_16, l_17, l_18, l_19, l_20, l_21, l_22, l_23, l_24, l_25, l_26, l_27, l_28, l_29, l_30, l_31, l_32, l_40, l_41, l_42, l_43, l_44, l_45, l_46, l_47, l_48, l_49, l_50, l_51, l_52, l_53, l_54, l_55, l_56, l_57, l_58, l_59, l_60, l_61, l_62, l_63, l_64, l_72, l_97, l_99, l_100, l_104, l_120, l_122, l_128, l_140, l_255, l_256, l_257, l_258, l_260, l_261, l_262, l_364, l_680, l_700, l_701, l_840, l_999, l_1023, l_1024, l_9999, l_10000, l_1000000, lm]
              simp (disch := first | (with_reducible assumption) | omega | exact ⟨by omega, by omega⟩ | ((with_reducible first | apply Wf.wI | apply Wf.wL | apply Wf.fL | apply Wf.fI | apply Wf.fr); (repeat (with_reducible first | assumption | apply Wf.wI | apply Wf.wL | apply Wf.fL | apply Wf.fI | apply Wf.fr)))) only [ck_225, gI_225, gL_225, pI_225, pZ0_225, pZ1_225, pL_225, gR_225_1, gR_225_3, gR_225_4, gR_225_5, gR_225_6, gR_225_7, gR_225_8, gR_225_9, gR_225_10, gR_225_11, gR_225_12, gR_225_13, gR_225_14, gR_225_15, gR_225_16, gR_225_17, gR_225_18, gR_225_19, gR_225_20, gR_225_21, gR_225_35, gR_225_36, gR_225_38, gR_225_39, gR_225_40, gR_225_41, gR_225_43, gR_225_44, gR_225_45, gR_225_48, gR_225_49, gR_225_50, gR_225_51, gR_225_53, gR_225_54, gR_225_55, gR_225_56, gR_225_58, gR_225_59, gR_225_60, gR_225_61, gR_225_62, gR_225_63, gR_225_66, gR_225_67, bq_n, bd_s, mp_s, rz_0, rz_1, bI_rz, zadd, aI_227, sI_227, len_227]
            obtain ⟨v, e11'⟩ := e11'
            simp (disch := first | (with_reducible assumption) | omega | exact ⟨by omega, by omega⟩ | ((with_reducible first | apply Wf.wI | apply Wf.wL | apply Wf.fL | apply Wf.fI | apply Wf.fr); (repeat (with_reducible first | assumption | apply Wf.wI | apply Wf.wL | apply Wf.fL | apply Wf.fI | apply Wf.fr)))) only [bq_n, bd_s, mp_s, rz_0, rz_1, bI_rz, ck_225, gI_225, gL_225, pI_225, pZ0_225, pZ1_225, pL_225, gR_225_1, gR_225_3, gR_225_4, gR_225_5, gR_225_6, gR_225_7, gR_225_8, gR_225_9, gR_225_10, gR_225_11, gR_225_12, gR_225_13, gR_225_14, gR_225_15, gR_225_16, gR_225_17, gR_225_18, gR_225_19, gR_225_20, gR_225_21, gR_225_35, gR_225_36, gR_225_38, gR_225_39, gR_225_40, gR_225_41, gR_225_43, gR_225_44, gR_225_45, gR_225_48, gR_225_49, gR_225_50, gR_225_51, gR_225_53, gR_225_54, gR_225_55, gR_225_56, gR_225_58, gR_225_59, gR_225_60, gR_225_61, gR_225_62, gR_225_63, gR_225_66, gR_225_67]
            rw [e11']
            simp (disch := first | (with_reducible assumption) | omega | exact ⟨by omega, by omega⟩ | ((with_reducible first | apply Wf.wI | apply Wf.wL | apply Wf.fL | apply Wf.fI | apply Wf.fr); (repeat (with_reducible first | assumption | apply Wf.wI | apply Wf.wL | apply Wf.fL | apply Wf.fI | apply Wf.fr)))) only [bq_n, bd_s, mp_s, rz_0, rz_1, bI_rz, zadd, aI_243, sI_243, len_243]
            refine ⟨_, rfl, dF.xw (by omega) (by omega) (Nat.le_add_right 3 _), Or.inl ⟨f, j, by rw [eL, mres_f d4], Or.inl ?_⟩⟩
            exact RSt.wr (s := (j, some (f, j))) d3 (by omega)
          · have xl : o'.length ≤ 64 := by have := x1.2.2.2.2.1; have := x1.2.2.2.2.2.2.1; omega
            have xW := x1.1.w
            have x23 : ah_I σ2 227 23 = nI o'.length := x1.2.2.2.2.2.2.2.1
            have e11' : f_X12_fresher 225 (nI 11) σ2 = some (nI o'.length, σ2) := by
              unfold f_X12_fresher f_X12_fresher_0
              simp only [to_bq, l_0, l_1, l_2, l_3, l_4, l_5, l_6, l_7, l_8, l_9, l_10, l_11, l_12, l_13, l_14, l_15, l_16, l_17, l_18, l_19, l_20, l_21, l_22, l_23, l_24, l_25, l_26, l_27, l_28, l_29, l_30, l_31, l_32, l_40, l_41, l_42, l_43, l_44, l_45, l_46, l_47, l_48, l_49, l_50, l_51, l_52, l_53, l_54, l_55, l_56, l_57, l_58, l_59, l_60, l_61, l_62, l_63, l_64, l_72, l_97, l_99, l_100, l_104, l_120, l_122, l_128, l_140, l_255, l_256, l_257, l_258, l_260, l_261, l_262, l_364, l_680, l_700, l_701, l_840, l_999, l_1023, l_1024, l_9999, l_10000, l_1000000, lm]
              simp (disch := first | (with_reducible assumption) | omega | exact ⟨by omega, by omega⟩ | ((with_reducible first | apply Wf.wI | apply Wf.wL | apply Wf.fL | apply Wf.fI | apply Wf.fr); (repeat (with_reducible first | assumption | apply Wf.wI | apply Wf.wL | apply Wf.fL | apply Wf.fI | apply Wf.fr)))) only [ck_225, gI_225, gL_225, pI_225, pZ0_225, pZ1_225, pL_225, gR_225_1, gR_225_3, gR_225_4, gR_225_5, gR_225_6, gR_225_7, gR_225_8, gR_225_9, gR_225_10, gR_225_11, gR_225_12, gR_225_13, gR_225_14, gR_225_15, gR_225_16, gR_225_17, gR_225_18, gR_225_19, gR_225_20, gR_225_21, gR_225_35, gR_225_36, gR_225_38, gR_225_39, gR_225_40, gR_225_41, gR_225_43, gR_225_44, gR_225_45, gR_225_48, gR_225_49, gR_225_50, gR_225_51, gR_225_53, gR_225_54, gR_225_55, gR_225_56, gR_225_58, gR_225_59, gR_225_60, gR_225_61, gR_225_62, gR_225_63, gR_225_66, gR_225_67, bq_n, bd_s, mp_s, rz_0, rz_1, bI_rz, zadd, aI_227, sI_227, len_227, x23]
            simp (disch := first | (with_reducible assumption) | omega | exact ⟨by omega, by omega⟩ | ((with_reducible first | apply Wf.wI | apply Wf.wL | apply Wf.fL | apply Wf.fI | apply Wf.fr); (repeat (with_reducible first | assumption | apply Wf.wI | apply Wf.wL | apply Wf.fL | apply Wf.fI | apply Wf.fr)))) only [bq_n, bd_s, mp_s, rz_0, rz_1, bI_rz, ck_225, gI_225, gL_225, pI_225, pZ0_225, pZ1_225, pL_225, gR_225_1, gR_225_3, gR_225_4, gR_225_5, gR_225_6, gR_225_7, gR_225_8, gR_225_9, gR_225_10, gR_225_11, gR_225_12, gR_225_13, gR_225_14, gR_225_15, gR_225_16, gR_225_17, gR_225_18, gR_225_19, gR_225_20, gR_225_21, gR_225_35, gR_225_36, gR_225_38, gR_225_39, gR_225_40, gR_225_41, gR_225_43, gR_225_44, gR_225_45, gR_225_48, gR_225_49, gR_225_50, gR_225_51, gR_225_53, gR_225_54, gR_225_55, gR_225_56, gR_225_58, gR_225_59, gR_225_60, gR_225_61, gR_225_62, gR_225_63, gR_225_66, gR_225_67]
            rw [e11']
            simp (disch := first | (with_reducible assumption) | omega | exact ⟨by omega, by omega⟩ | ((with_reducible first | apply Wf.wI | apply Wf.wL | apply Wf.fL | apply Wf.fI | apply Wf.fr); (repeat (with_reducible first | assumption | apply Wf.wI | apply Wf.wL | apply Wf.fL | apply Wf.fI | apply Wf.fr)))) only [bq_n, bd_s, mp_s, rz_0, rz_1, bI_rz, zadd, aI_243, sI_243, len_243]
            refine ⟨_, rfl, dF.xw (by omega) (by omega) (Nat.le_add_right 3 _), ?_⟩
            have g3 : RSt (ah_wI σ2 243 (3 + q) (nI o'.length)) T n (i', none) := RSt.wr (s := (i', none)) ⟨x1.1, x1.2.1⟩ (by omega)
            by_cases w : tS (tks T n i') = 3 ∧ tV (tks T n i') = 59
            · refine Or.inr ⟨i', eLaw E q o o', td ||| 2 ^ (16 + q), o', ?_, g3, w, ?_, ?_, td2, ?_, g, q, x6, x7, xl, hq3, rfl, y, rfl⟩
              · have hm : men (tks T n) (i + 1, o, [], 0, o.length, true) (i', (rels 1 (P ++ []) om).1, (rels 1 (P ++ []) om).2, 0, c', false) := x2.en (mst_en (if_pos ⟨w, rfl⟩))
                rw [eL, mres_n hm]
                have er : rels 1 (P ++ []) om = (o', []) := by
                  rw [rels_app (L := 1) P [] om (fun x hx => x3 x hx), x4]; rfl
                rw [er]
              · refine RdE.cg (E := up (up (up E 242 q (nI o.length)) 227 11 (nI o'.length)) 243 q (nI o'.length)) ?_ (fun a j h1 h2 h3 => ?_)
                · refine RdE.wr (a := 243) (j := q) (fun a j h1 h2 h3 => ?_) hq3
                  by_cases w1 : a = 227 ∧ j = 11
                  · rw [w1.1, w1.2, up_e]; exact x23
                  · rw [show up (up E 242 q (nI o.length)) 227 11 (nI o'.length) a j = up E 242 q (nI o.length) a j from if_neg w1, d2.I (fun z => by
                      unfold Xxp at z
                      rcases z with z | z | z
                      · omega
                      · obtain ⟨z1, z2⟩ := z
                        subst z1
                        have : hf 227 = 12 := rfl
                        omega
                      · omega)]
                    exact cE a j h1 h2 h3
                · unfold up eLaw
                  by_cases w1 : a = 227 ∧ j = 11
                  · rw [if_neg (by omega), if_pos w1, if_pos w1]
                  · rw [if_neg w1, if_neg w1]
                    by_cases w2 : a = 242 ∧ j = q
                    · rw [if_neg (by omega), if_pos w2, if_pos w2]
                    · rw [if_neg w2, if_neg w2]
                      by_cases w3 : a = 243 ∧ j = q
                      · rw [if_pos w3, if_pos w3]
                      · rw [if_neg w3, if_neg w3, if_neg (by omega), if_neg (by omega)]
              · rw [rI_ne (by omega), d2.I (by unfold Xxp; omega), rI_ne (by omega)]; exact b22
              · have c33 := x1.2.2.1
                have c34 := x1.2.2.2.1
                have cl : c' = o'.length := by rw [x8, x6, List.length_append]
                rw [cl] at c34
                exact (show RKn σ2 o' from ⟨c33, c34, x1.2.2.2.2.2.2.2.2⟩).fr (X := fun x y => x = 243) (Fr.rfl.wI rfl) (fun x y z => by omega)
            · refine Or.inl ⟨1, i', ?_, Or.inr ⟨g3, rfl, w⟩⟩
              have hb := mst_bad (k := tks T n) (i := i') (p := 0) (c := c') (om := om) (P := P) (S := []) (fun z => x1.1.v.2.2.2 z) x5 (fun z => w z.1) (fun z => by omega)
              rw [eL, mres_f (x2.fl (mst_fl hb))]
      · rw [if_neg (by rw [le_nI (by omega) (by omega)]; exact z2)]
        obtain ⟨τ, t1, t2, t3⟩ := bad (by omega)
        exact ⟨τ, t1, t2, Or.inl t3⟩
  · rw [if_neg (by rw [eq_nI (by omega) (by omega)]; exact z0)]
    obtain ⟨τ, t1, t2, t3⟩ := bad (by omega)
    exact ⟨τ, t1, t2, Or.inl t3⟩
end
