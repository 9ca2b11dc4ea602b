/-! THE CLASS: a law is read -/
section
variable {T : Nat → Nat} {n p q : Nat}
theorem lex_sg (hp : p ≤ n) : tS (lex T n p) = 3 → sgS (tV (lex T n p)) ∨ tV (lex T n p) = 256 ∨ tV (lex T n p) = 257 ∨ tV (lex T n p) = 258 := by
  have h2 : gon T n isWs p ≤ n := gon_le hp
  unfold lex
  generalize gon T n isWs p = q at *
  unfold lexq
  by_cases z : n ≤ q
  · rw [if_pos z]; intro w; cases w
  rw [if_neg z]
  by_cases zs : isSm (T q)
  · rw [cif_t zs]
    have := (wdt_n (T := T) q (gon T n isSm q)).2.2
    intro w; omega
  rw [cif_f zs]
  by_cases zd : isDg (T q)
  · rw [cif_t zd]; intro w; cases w
  · rw [cif_f zd]
    unfold sgn
    split
    · intro _; exact Or.inr (Or.inl rfl)
    · split
      · intro _; exact Or.inr (Or.inr (Or.inl rfl))
      · split
        · intro _; exact Or.inr (Or.inr (Or.inr rfl))
        · split
          · rename_i h; intro _; exact Or.inl h
          · intro w; cases w
theorem tks_sg (i : Nat) : tS (tks T n i) = 3 → sgS (tV (tks T n i)) ∨ tV (tks T n i) = 256 ∨ tV (tks T n i) = 257 ∨ tV (tks T n i) = 258 := by
  induction i with
  | zero => exact lex_sg (by omega)
  | succ i ih =>
    unfold tks
    by_cases z : tS (tks T n i) = 4
    · rw [if_pos z]; exact ih
    · rw [if_neg z]; exact lex_sg (tks_n i).2.1
end
section
variable {σ τ : ah_H} {t p c : Nat} {S : List Nat} {o : List (Nat × Nat)} {T : Nat → Nat} {n N i : Nat}
/-- the sign that joins -/
theorem c_join (hA : CAt σ T n N i) (hv : TVb (tks T n i)) : ∃ x, f_X2_joiningSign 88 σ = some (x, σ) ∧ f_X2_bindingOf x σ = some (nI (bnd (jsg (tks T n i))), σ) ∧ (bnd (jsg (tks T n i)) ≠ 0 → x = nI (wsg (jsg (tks T n i))) ∧ sgO (jsg (tks T n i))) := by
  have hW := hA.w
  have kd := hA.kd
  have e21 : f_X8_isKey 83 (nI 21) σ = some (cI (tS (tks T n i) = 0 ∧ tV (tks T n i) = 15), σ) := by
    rw [c_isKey hA hv (by omega)]
    congr 2
    rw [show (tS (tks T n i) = 0 ∧ ckw (tV (tks T n i)) = 21) = (tS (tks T n i) = 0 ∧ tV (tks T n i) = 15) from propext ⟨fun w => ⟨w.1, (ckw_15 _ (hv.1 w.1)).1.mp w.2⟩, fun w => ⟨w.1, (ckw_15 _ (hv.1 w.1)).1.mpr w.2⟩⟩]
  have e22 : f_X8_isKey 83 (nI 22) σ = some (cI (tS (tks T n i) = 0 ∧ tV (tks T n i) = 16), σ) := by
    rw [c_isKey hA hv (by omega)]
    congr 2
    rw [show (tS (tks T n i) = 0 ∧ ckw (tV (tks T n i)) = 22) = (tS (tks T n i) = 0 ∧ tV (tks T n i) = 16) from propext ⟨fun w => ⟨w.1, (ckw_15 _ (hv.1 w.1)).2.1.mp w.2⟩, fun w => ⟨w.1, (ckw_15 _ (hv.1 w.1)).2.1.mpr w.2⟩⟩]
  by_cases z15 : tS (tks T n i) = 0 ∧ tV (tks T n i) = 15
  · rw [cI_t z15] at e21
    have ej : jsg (tks T n i) = 262 := if_pos z15
    rw [ej]
    refine ⟨nI 2, ?_, rfl, fun _ => ⟨rfl, by omega⟩⟩
    unfold f_X2_joiningSign f_X2_joiningSign_0
    simp only [to_bq, l_0, l_1, l_2, l_3, l_4, l_5, l_6, l_7, l_8, l_9, l_10, l_11, l_12, l_13, l_14, l_15, l_16, l_17, l_18, l_19, l_20, l_21, l_22, l_23, l_24, l_25, l_26, l_27, l_28, l_29, l_30, l_31, l_32, l_40, l_41, l_42, l_43, l_44, l_45, l_46, l_47, l_48, l_49, l_50, l_51, l_52, l_53, l_54, l_55, l_56, l_57, l_58, l_59, l_60, l_61, l_62, l_63, l_64, l_72, l_97, l_99, l_100, l_104, l_120, l_122, l_128, l_140, l_255, l_256, l_257, l_258, l_260, l_261, l_262, l_364, l_680, l_700, l_701, l_840, l_999, l_1023, l_1024, l_9999, l_10000, l_1000000, lm]
    simp (disch := first | (with_reducible assumption) | omega | exact ⟨by omega, by omega⟩ | ((with_reducible first | apply Wf.wI | apply Wf.wL | apply Wf.fL | apply Wf.fI | apply Wf.fr); (repeat (with_reducible first | assumption | apply Wf.wI | apply Wf.wL | apply Wf.fL | apply Wf.fI | apply Wf.fr)))) only [ck_88, gI_88, gL_88, pI_88, pZ0_88, pZ1_88, pL_88, gR_88_0, gR_88_1, pR_88_2, gR_88_2, bq_n, bd_s, mp_s, rz_0, rz_1, bI_rz, e21, show (nI 1 = nI 0) = False from eq_false (by decide), if_true, if_false, ite_true, ite_false, reduceIte, not_true, not_false, and_true, true_and, and_false, false_and, or_true, true_or, or_false, false_or, eq_self]
  rw [cI_f z15] at e21
  by_cases z16 : tS (tks T n i) = 0 ∧ tV (tks T n i) = 16
  · rw [cI_t z16] at e22
    have ej : jsg (tks T n i) = 261 := by unfold jsg; rw [if_neg z15, if_pos z16]
    rw [ej]
    refine ⟨nI 3, ?_, rfl, fun _ => ⟨rfl, by omega⟩⟩
    unfold f_X2_joiningSign f_X2_joiningSign_0
    simp only [to_bq, l_0, l_1, l_2, l_3, l_4, l_5, l_6, l_7, l_8, l_9, l_10, l_11, l_12, l_13, l_14, l_15, l_16, l_17, l_18, l_19, l_20, l_21, l_22, l_23, l_24, l_25, l_26, l_27, l_28, l_29, l_30, l_31, l_32, l_40, l_41, l_42, l_43, l_44, l_45, l_46, l_47, l_48, l_49, l_50, l_51, l_52, l_53, l_54, l_55, l_56, l_57, l_58, l_59, l_60, l_61, l_62, l_63, l_64, l_72, l_97, l_99, l_100, l_104, l_120, l_122, l_128, l_140, l_255, l_256, l_257, l_258, l_260, l_261, l_262, l_364, l_680, l_700, l_701, l_840, l_999, l_1023, l_1024, l_9999, l_10000, l_1000000, lm]
    simp (disch := first | (with_reducible assumption) | omega | exact ⟨by omega, by omega⟩ | ((with_reducible first | apply Wf.wI | apply Wf.wL | apply Wf.fL | apply Wf.fI | apply Wf.fr); (repeat (with_reducible first | assumption | apply Wf.wI | apply Wf.wL | apply Wf.fL | apply Wf.fI | apply Wf.fr)))) only [ck_88, gI_88, gL_88, pI_88, pZ0_88, pZ1_88, pL_88, gR_88_0, gR_88_1, pR_88_2, gR_88_2, bq_n, bd_s, mp_s, rz_0, rz_1, bI_rz, e21, e22, show (nI 1 = nI 0) = False from eq_false (by decide), if_true, if_false, ite_true, ite_false, reduceIte, not_true, not_false, and_true, true_and, and_false, false_and, or_true, true_or, or_false, false_or, eq_self]
  rw [cI_f z16] at e22
  by_cases z3 : tS (tks T n i) = 3
  · have ej : jsg (tks T n i) = tV (tks T n i) := by unfold jsg; rw [if_neg z15, if_neg z16, if_pos z3]
    have kd3 : ah_I σ 83 8 = nI 4 ∧ ah_I σ 83 9 = nI (sgc (tV (tks T n i))) := by
      rcases kd with ⟨a, b, d⟩ | ⟨a, b, d⟩ | ⟨a, b, d⟩ | ⟨a, b, d⟩ | ⟨a, b⟩ | ⟨a, b⟩
      · omega
      · omega
      · omega
      · exact ⟨b, d⟩
      · omega
      · omega
    rw [ej]
    refine ⟨nI (sgc (tV (tks T n i))), ?_, ?_, ?_⟩
    · unfold f_X2_joiningSign f_X2_joiningSign_0
      simp only [to_bq, l_0, l_1, l_2, l_3, l_4, l_5, l_6, l_7, l_8, l_9, l_10, l_11, l_12, l_13, l_14, l_15, l_16, l_17, l_18, l_19, l_20, l_21, l_22, l_23, l_24, l_25, l_26, l_27, l_28, l_29, l_30, l_31, l_32, l_40, l_41, l_42, l_43, l_44, l_45, l_46, l_47, l_48, l_49, l_50, l_51, l_52, l_53, l_54, l_55, l_56, l_57, l_58, l_59, l_60, l_61, l_62, l_63, l_64, l_72, l_97, l_99, l_100, l_104, l_120, l_122, l_128, l_140, l_255, l_256, l_257, l_258, l_260, l_261, l_262, l_364, l_680, l_700, l_701, l_840, l_999, l_1023, l_1024, l_9999, l_10000, l_1000000, lm]
      simp (disch := first | (with_reducible assumption) | omega | exact ⟨by omega, by omega⟩ | ((with_reducible first | apply Wf.wI | apply Wf.wL | apply Wf.fL | apply Wf.fI | apply Wf.fr); (repeat (with_reducible first | assumption | apply Wf.wI | apply Wf.wL | apply Wf.fL | apply Wf.fI | apply Wf.fr)))) only [ck_88, gI_88, gL_88, pI_88, pZ0_88, pZ1_88, pL_88, gR_88_0, gR_88_1, pR_88_2, gR_88_2, ck_83, gI_83, gL_83, pI_83, pZ0_83, pZ1_83, pL_83, gR_83_0, gR_83_1, gR_83_2, gR_83_3, gR_83_4, bq_n, bd_s, mp_s, rz_0, rz_1, bI_rz, e21, e22, if_true, if_false, ite_true, ite_false, reduceIte, not_true, not_false, and_true, true_and, and_false, false_and, or_true, true_or, or_false, false_or, eq_self, kd3.1, kd3.2]
    · have hs := tks_sg (T := T) (n := n) i z3
      generalize tV (tks T n i) = v at hs
      rcases hs with (rfl | rfl | rfl | rfl | rfl | rfl | rfl | rfl | rfl | rfl) | rfl | rfl | rfl <;> rfl
    · intro hb
      have hs := tks_sg (T := T) (n := n) i z3
      generalize tV (tks T n i) = v at hs hb
      rcases hs with (rfl | rfl | rfl | rfl | rfl | rfl | rfl | rfl | rfl | rfl) | rfl | rfl | rfl
      · exact absurd (by decide) hb
      · exact absurd (by decide) hb
      · exact absurd (by decide) hb
      all_goals exact ⟨rfl, by omega⟩
  · have ej : jsg (tks T n i) = 0 := by unfold jsg; rw [if_neg z15, if_neg z16, if_neg z3]
    have n4 : ¬ ah_I σ 83 8 = nI 4 := by
      rcases kd with ⟨a, b, d⟩ | ⟨a, b, d⟩ | ⟨a, b, d⟩ | ⟨a, b, d⟩ | ⟨a, b⟩ | ⟨a, b⟩
      · rw [b]; decide
      · rw [b]; decide
      · rw [b]; decide
      · omega
      · rw [b]; decide
      · rw [b]; decide
    rw [ej]
    refine ⟨mI 1, ?_, rfl, fun w => absurd (by decide) w⟩
    unfold f_X2_joiningSign f_X2_joiningSign_0
    simp only [to_bq, l_0, l_1, l_2, l_3, l_4, l_5, l_6, l_7, l_8, l_9, l_10, l_11, l_12, l_13, l_14, l_15, l_16, l_17, l_18, l_19, l_20, l_21, l_22, l_23, l_24, l_25, l_26, l_27, l_28, l_29, l_30, l_31, l_32, l_40, l_41, l_42, l_43, l_44, l_45, l_46, l_47, l_48, l_49, l_50, l_51, l_52, l_53, l_54, l_55, l_56, l_57, l_58, l_59, l_60, l_61, l_62, l_63, l_64, l_72, l_97, l_99, l_100, l_104, l_120, l_122, l_128, l_140, l_255, l_256, l_257, l_258, l_260, l_261, l_262, l_364, l_680, l_700, l_701, l_840, l_999, l_1023, l_1024, l_9999, l_10000, l_1000000, lm]
    simp (disch := first | (with_reducible assumption) | omega | exact ⟨by omega, by omega⟩ | ((with_reducible first | apply Wf.wI | apply Wf.wL | apply Wf.fL | apply Wf.fI | apply Wf.fr); (repeat (with_reducible first | assumption | apply Wf.wI | apply Wf.wL | apply Wf.fL | apply Wf.fI | apply Wf.fr)))) only [ck_88, gI_88, gL_88, pI_88, pZ0_88, pZ1_88, pL_88, gR_88_0, gR_88_1, pR_88_2, gR_88_2, ck_83, gI_83, gL_83, pI_83, pZ0_83, pZ1_83, pL_83, gR_83_0, gR_83_1, gR_83_2, gR_83_3, gR_83_4, bq_n, bd_s, mp_s, rz_0, rz_1, bI_rz, e21, e22, if_true, if_false, ite_true, ite_false, reduceIte, not_true, not_false, and_true, true_and, and_false, false_and, or_true, true_or, or_false, false_or, eq_self, if_neg n4]
/-- a sign is joined on -/
theorem c_rs130 (h : CSk σ t S o p c) (h6 : ah_I σ 88 6 = nI 0) {v : Nat} (hv : sgO v) {k : TK} (hk4 : tS k ≠ 4) : ∃ τ r, f_X2_readSign_130 88 (nI (wsg v)) (nI (bnd v)) σ = some (nI r, τ) ∧ Fr (Xfm t) σ τ ∧ SOt t τ r (jon i o S p c v) k i := by
  have hT : t = 2 ∨ t = 42 := h.2.1
  have hb := bnd_w v (Or.inr hv)
  obtain ⟨τ1, e1, f1, k1⟩ := c_release (L := bnd v) h (by have := hb.2.1 (by omega); omega) hb.2.2
  obtain ⟨la, lb⟩ := c_addWait (x := v) k1 hv
  have h64 : c ≤ 64 := h.2.2.2.2.2.2.2.2.2.1
  unfold jon
  by_cases zc : c < 64
  · obtain ⟨τ2, e2, f2, k2, d1, d2⟩ := la zc
    rw [if_neg (by omega)]
    refine ⟨τ2, 0, ?_, (f1.mono Xrl_f).trans f2, Or.inr (Or.inl ⟨_, _, _, _, true, rfl, rfl, k2, d1, ?_, hk4⟩)⟩
    · unfold f_X2_readSign_130
      rw [e1, bd_s, e2, bd_s]
    · rw [d2, f1.I (by unfold Xrl; omega)]; exact h6
  · rw [if_pos (by omega)]
    refine ⟨τ1, 2, ?_, f1.mono Xrl_f, Or.inl ⟨2, rfl, rfl, by omega, by omega⟩⟩
    unfold f_X2_readSign_130
    rw [e1, bd_s, lb zc, bd_s]
theorem rels1_hd : ∀ (S : List Nat) (o : List (Nat × Nat)), (rels 1 S o).2 = [] ∨ ∃ x s, (rels 1 S o).2 = x :: s ∧ bnd x < 1 := by
  intro S
  induction S with
  | nil => intro o; exact Or.inl rfl
  | cons x s ih =>
    intro o
    show (if 1 ≤ bnd x then rels 1 s (o ++ [(2, x)]) else (o, x :: s)).2 = [] ∨ ∃ y u, (if 1 ≤ bnd x then rels 1 s (o ++ [(2, x)]) else (o, x :: s)).2 = y :: u ∧ bnd y < 1
    by_cases z : 1 ≤ bnd x
    · rw [if_pos z]; exact ih _
    · rw [if_neg z]; exact Or.inr ⟨x, s, rfl, by omega⟩
theorem c_sign (hA : CAt σ T n N i) (hv : TVb (tks T n i)) (h : CSk σ t S o p c) (h5 : ah_I σ 88 5 = nI 0) (h6 : ah_I σ 88 6 = nI 0) : ∃ τ r, f_X2_readSign 88 σ = some (nI r, τ) ∧ Fr (Xfm t) σ τ ∧ SOt t τ r (mst (tks T n) (i, o, S, p, c, false)) (tks T n i) i := by
  have hW := h.1
  have hT : t = 2 ∨ t = 42 := h.2.1
  have hp8 : p ≤ 8 := h.2.2.2.2.2.2.2.2.2.2.1
  have h4 : ah_I σ 88 4 = nI p := h.2.2.2.2.2.1
  have hst : mst (tks T n) (i, o, S, p, c, false) = (if (tS (tks T n i) = 3 ∧ tV (tks T n i) = 59) ∧ p = 0 then .inr (.inl (i, (rels 1 S o).1, (rels 1 S o).2, p, c, false)) else if (tS (tks T n i) = 3 ∧ tV (tks T n i) = 41) ∧ 0 < p then .inr (.inr (i + 1, (rels 1 S o).1, (rels 1 S o).2.tail, p - 1, c, false)) else if bnd (jsg (tks T n i)) = 0 then .inl (1, i) else if bnd (jsg (tks T n i)) = 4 then (if topb (rels 5 S o).2 = 4 then .inl (1, i) else jon i (rels 5 S o).1 (rels 5 S o).2 p c (jsg (tks T n i))) else jon i o S p c (jsg (tks T n i))) := rfl
  have k30 := sgc_30 (v := tV (tks T n i))
  have e30 : f_X8_isSign 83 (nI 30) σ = some (cI (tS (tks T n i) = 3 ∧ tV (tks T n i) = 59), σ) := by
    rw [c_isSign hA (by omega)]
    congr 2
    rw [show (tS (tks T n i) = 3 ∧ sgc (tV (tks T n i)) = 30) = (tS (tks T n i) = 3 ∧ tV (tks T n i) = 59) from propext ⟨fun w => ⟨w.1, k30.1.mp w.2⟩, fun w => ⟨w.1, k30.1.mpr w.2⟩⟩]
  have e32 : f_X8_isSign 83 (nI 32) σ = some (cI (tS (tks T n i) = 3 ∧ tV (tks T n i) = 41), σ) := by
    rw [c_isSign hA (by omega)]
    congr 2
    rw [show (tS (tks T n i) = 3 ∧ sgc (tV (tks T n i)) = 32) = (tS (tks T n i) = 3 ∧ tV (tks T n i) = 41) from propext ⟨fun w => ⟨w.1, k30.2.2.mp w.2⟩, fun w => ⟨w.1, k30.2.2.mpr w.2⟩⟩]
  -- a sign that joins, or none
  have s77 : ¬ ((tS (tks T n i) = 3 ∧ tV (tks T n i) = 59) ∧ p = 0) → ¬ ((tS (tks T n i) = 3 ∧ tV (tks T n i) = 41) ∧ 0 < p) → ∃ τ r, f_X2_readSign_77 88 σ = some (nI r, τ) ∧ Fr (Xfm t) σ τ ∧ SOt t τ r (mst (tks T n) (i, o, S, p, c, false)) (tks T n i) i := by
    intro n1 n2
    rw [if_neg n1, if_neg n2] at hst
    obtain ⟨x, j1, j2, j3⟩ := c_join hA hv
    unfold f_X2_readSign_77
    rw [j1, bd_s, j2, bd_s]
    by_cases z0 : bnd (jsg (tks T n i)) = 0
    · rw [if_pos z0] at hst
      rw [if_pos (show nI (bnd (jsg (tks T n i))) = 0 by rw [z0]; rfl)]
      exact ⟨σ, 1, rfl, Fr.rfl, Or.inl ⟨1, hst, rfl, by omega, by omega⟩⟩
    rw [if_neg z0] at hst
    obtain ⟨jx, js⟩ := j3 z0
    have hb6 := (bnd_w _ (Or.inr js)).2.2
    have hk4 : tS (tks T n i) ≠ 4 := by
      intro w
      apply z0
      have : jsg (tks T n i) = 0 := by unfold jsg; rw [if_neg (by omega), if_neg (by omega), if_neg (by omega)]
      rw [this]; decide
    have nz : ∀ k, k < 100 → (nI (bnd (jsg (tks T n i))) = nI k ↔ bnd (jsg (tks T n i)) = k) := fun k hk => by rw [eq_nI (by omega) (by omega)]
    rw [if_neg (show ¬ nI (bnd (jsg (tks T n i))) = 0 from fun w => z0 ((nz 0 (by omega)).mp w))]
    by_cases z4 : bnd (jsg (tks T n i)) = 4
    · rw [if_pos z4] at hst
      rw [if_pos (show nI (bnd (jsg (tks T n i))) = (4 : Int32) from (nz 4 (by omega)).mpr z4)]
      obtain ⟨τ1, e1, f1, k1⟩ := c_release (L := 5) h (by omega) (by omega)
      have h61 : ah_I τ1 88 6 = nI 0 := by rw [f1.I (by unfold Xrl; omega)]; exact h6
      have hW1 := k1.1
      rw [show f_X2_release 88 (5 : Int32) σ = some τ1 from e1, bd_s, gI_88 hW1, bd_s]
      cases es : (rels 5 S o).2 with
      | nil =>
        rw [es] at hst k1
        have h2 : ah_I τ1 88 3 = nI 0 := k1.2.2.2.1
        rw [h2, if_pos (show nI 0 ≤ 0 from (by decide : nI 0 ≤ nI 0))]
        rw [if_neg (by show ¬ (0 : Nat) = 4; omega)] at hst
        obtain ⟨τ2, r, g1, g2, g3⟩ := c_rs130 (i := i) (v := jsg (tks T n i)) k1 h61 js hk4
        rw [jx, hst]
        exact ⟨τ2, r, g1, (f1.mono Xrl_f).trans g2, g3⟩
      | cons y s =>
        rw [es] at hst k1
        obtain ⟨t1, t2, t3, t4⟩ := k1.top rfl
        have hy6 := (bnd_w y t3).2.2
        rw [t1, if_neg (show ¬ nI (s.length + 1) ≤ 0 from fun w => by
          have w : nI (s.length + 1) ≤ nI 0 := w
          rw [le_nI (by omega) (by omega)] at w; omega), gR_88_1 hW1, bd_s, bd_s, show nI (s.length + 1) - (1 : Int32) = nI s.length from (zsub (a := s.length + 1) (b := 1) (by omega)), aI_89 hW1 t4, bd_s, t2, c_bind t3, bd_s]
        have e4 : (nI (bnd y) = (4 : Int32)) = (bnd y = 4) := eq_nI (b := 4) (by omega) (by omega)
        by_cases zy : bnd y = 4
        · rw [if_pos (by rw [e4]; exact zy)]
          rw [if_pos (by show bnd y = 4; exact zy)] at hst
          exact ⟨τ1, 1, rfl, f1.mono Xrl_f, Or.inl ⟨1, hst, rfl, by omega, by omega⟩⟩
        · rw [if_neg (by rw [e4]; exact zy)]
          rw [if_neg (by show ¬ bnd y = 4; exact zy)] at hst
          obtain ⟨τ2, r, g1, g2, g3⟩ := c_rs130 (i := i) (v := jsg (tks T n i)) k1 h61 js hk4
          rw [jx, hst]
          exact ⟨τ2, r, g1, (f1.mono Xrl_f).trans g2, g3⟩
    · rw [if_neg z4] at hst
      rw [if_neg (show ¬ nI (bnd (jsg (tks T n i))) = (4 : Int32) from fun w => z4 ((nz 4 (by omega)).mp w))]
      obtain ⟨τ2, r, g1, g2, g3⟩ := c_rs130 (i := i) (v := jsg (tks T n i)) h h6 js hk4
      rw [jx, hst]
      exact ⟨τ2, r, g1, g2, g3⟩
  have s31 : ¬ ((tS (tks T n i) = 3 ∧ tV (tks T n i) = 59) ∧ p = 0) → ∃ τ r, f_X2_readSign_31 88 σ = some (nI r, τ) ∧ Fr (Xfm t) σ τ ∧ SOt t τ r (mst (tks T n) (i, o, S, p, c, false)) (tks T n i) i := by
    intro n1
    unfold f_X2_readSign_31
    rw [gR_88_0 hW, bd_s, show f_X8_isSign 83 (32 : Int32) σ = _ from e32, bd_s]
    by_cases z41 : tS (tks T n i) = 3 ∧ tV (tks T n i) = 41
    · rw [cI_t z41]
      show ∃ τ r, ((op_gI 2 4 σ 88).bind _) = _ ∧ _
      rw [gI_88 hW, bd_s, h4]
      by_cases zp : p = 0
      · rw [if_pos (show nI p ≤ 0 by rw [zp]; decide)]
        exact s77 n1 (by omega)
      · rw [if_neg (show ¬ nI p ≤ 0 from fun w => by
          have w : nI p ≤ nI 0 := w
          rw [le_nI (by omega) (by omega)] at w; omega)]
        obtain ⟨τ1, e1, f1, k1⟩ := c_release (L := 1) h (by omega) (by omega)
        have hW1 := k1.1
        have h61 : ah_I τ1 88 6 = nI 0 := by rw [f1.I (by unfold Xrl; omega)]; exact h6
        have h51 : ah_I τ1 88 5 = nI 0 := by rw [f1.I (by unfold Xrl; omega)]; exact h5
        rw [if_neg n1, if_pos ⟨z41, by omega⟩] at hst
        have hne : ∃ s, (rels 1 S o).2 = 0 :: s := by
          rcases rels1_hd S o with z | ⟨x, s, z, zb⟩
          · have hnb : nbr (rels 1 S o).2 = p := k1.2.2.2.2.2.2.2.2.2.2.2.1
            rw [z] at hnb
            have : (0 : Nat) = p := hnb
            omega
          · have hx := k1.2.2.2.2.2.2.2.2.2.2.2.2.2 x (by rw [z]; exact List.mem_cons_self ..)
            have hx0 : x = 0 := by
              apply Classical.byContradiction
              intro w
              have := (bnd_w x hx).2.1 w
              omega
            exact ⟨s, by rw [z, hx0]⟩
        obtain ⟨s, es⟩ := hne
        rw [es] at k1 hst
        obtain ⟨t1, -, -, t4⟩ := k1.top rfl
        obtain ⟨w1, w2, w3, w4, w5, w6, w7, w8, w9, w10, w11, w12, w13, w14⟩ := id k1
        have hn1 : nop (0 :: s) = nop s := by show (if (0 : Nat) = 0 then 0 else 1) + nop s = _; rw [if_pos rfl, Nat.zero_add]
        have hb1 : nbr (0 :: s) = 1 + nbr s := by show (if (0 : Nat) = 0 then 1 else 0) + nbr s = _; rw [if_pos rfl]
        have hl1 : (0 :: s).length = s.length + 1 := rfl
        refine ⟨ah_wI (ah_wI τ1 88 3 (nI s.length)) 88 4 (nI (p - 1)), 0, ?_, ((f1.mono Xrl_f).wI (by unfold Xfm; omega)).wI (by unfold Xfm; omega), Or.inr (Or.inl ⟨_, _, _, _, false, hst, rfl, ?_, ?_, ?_, by omega⟩)⟩
        · rw [show f_X2_release 88 (1 : Int32) σ = some τ1 from e1, bd_s, gI_88 hW1, bd_s, t1, pI_88 hW1, bd_s, gI_88 (hW1.wI _ _ _), bd_s, pI_88 (hW1.wI _ _ _), bd_s, rI_ne (by omega), w6]
          rw [show nI (s.length + 1) - (1 : Int32) = nI s.length from (zsub (a := s.length + 1) (b := 1) (by omega)), show nI p - (1 : Int32) = nI (p - 1) from (zsub (a := p) (b := 1) (by omega))]
          rfl
        · refine ⟨(hW1.wI _ _ _).wI _ _ _, w2, w3, by rw [rI_ne (by omega), rI_eq]; rfl, fun j hj => ?_, rI_eq, by rw [rI_ne (by omega), rI_ne (by omega)]; exact w7, by rw [rI_ne (by omega), rI_ne (by omega)]; exact w8, fun j hj => ?_, w10, by omega, by show nbr s = _; omega, by show _ + nop s ≤ _; omega, fun y hy => w14 y (List.mem_cons_of_mem _ hy)⟩
          · have hj : j < s.length := hj
            rw [rI_ne (by omega), rI_ne (by omega)]
            have := w5 j (by rw [hl1]; omega)
            rw [rev_l hj] at this; exact this
          · rw [rI_ne (by omega), rI_ne (by omega), rI_ne (by omega), rI_ne (by omega)]; exact w9 j hj
        · rw [rI_ne (by omega), rI_ne (by omega)]; exact h51
        · rw [rI_ne (by omega), rI_ne (by omega)]; exact h61
    · rw [cI_f z41]
      show ∃ τ r, f_X2_readSign_77 88 σ = _ ∧ _
      exact s77 n1 (fun w => z41 w.1)
  unfold f_X2_readSign f_X2_readSign_0
  rw [ck_88 hW, gR_88_0 hW, bd_s, show f_X8_isSign 83 (30 : Int32) σ = _ from e30, bd_s]
  by_cases z59 : tS (tks T n i) = 3 ∧ tV (tks T n i) = 59
  · rw [cI_t z59]
    show ∃ τ r, ((op_gI 2 4 σ 88).bind _) = _ ∧ _
    rw [gI_88 hW, bd_s, h4]
    by_cases zp : p = 0
    · subst zp
      rw [if_pos (show nI 0 = 0 from rfl)]
      rw [if_pos ⟨z59, rfl⟩] at hst
      obtain ⟨τ1, e1, f1, k1⟩ := c_release (L := 1) h (by omega) (by omega)
      have hW1 := k1.1
      refine ⟨ah_wI τ1 88 6 (nI 1), 0, ?_, (f1.mono Xrl_f).wI (by unfold Xfm; omega), Or.inr (Or.inr ⟨_, _, _, hst, rfl, k1.fr (X := fun a j => a = 88 ∧ j = 6) (Fr.rfl.wI ⟨rfl, rfl⟩) (fun a j _ => by omega), rI_eq⟩)⟩
      rw [show f_X2_release 88 (1 : Int32) σ = some τ1 from e1, bd_s, show op_pZ 2 6 τ1 88 (1 : Int32) = _ from pZ1_88 hW1, bd_s]
      rfl
    · rw [if_neg (show ¬ nI p = 0 from fun w => by
        have w : nI p = nI 0 := w
        rw [eq_nI (by omega) (by omega)] at w; exact zp w)]
      exact s31 (fun w => zp w.2)
  · rw [cI_f z59]
    show ∃ τ r, f_X2_readSign_31 88 σ = _ ∧ _
    exact s31 (fun w => z59 w.1)
end
