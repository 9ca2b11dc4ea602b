/-! TEXT: the tokens one after the other -/
noncomputable def tks (T : Nat → Nat) (n : Nat) : Nat → TK
  | 0 => lex T n 0
  | i + 1 => if tS (tks T n i) = 4 then tks T n i else lex T n (tN (tks T n i))
section
variable {T : Nat → Nat} {n p q : Nat}
theorem sgn_n (hq : q < n) : tP (sgn T n q) = q ∧ q < tN (sgn T n q) ∧ tN (sgn T n q) ≤ n ∧ (tS (sgn T n q) = 3 ∨ tS (sgn T n q) = 5) := by
  unfold sgn
  by_cases z1 : T q = 60 ∧ q + 1 < n ∧ T (q + 1) = 61
  · rw [if_pos z1]; exact ⟨rfl, by show q < q + 2; omega, by show q + 2 ≤ n; omega, Or.inl rfl⟩
  rw [if_neg z1]
  by_cases z2 : T q = 60 ∧ q + 1 < n ∧ T (q + 1) = 62
  · rw [if_pos z2]; exact ⟨rfl, by show q < q + 2; omega, by show q + 2 ≤ n; omega, Or.inl rfl⟩
  rw [if_neg z2]
  by_cases z3 : T q = 62 ∧ q + 1 < n ∧ T (q + 1) = 61
  · rw [if_pos z3]; exact ⟨rfl, by show q < q + 2; omega, by show q + 2 ≤ n; omega, Or.inl rfl⟩
  rw [if_neg z3]
  by_cases z4 : sgS (T q)
  · rw [if_pos z4]; exact ⟨rfl, by show q < q + 1; omega, by show q + 1 ≤ n; omega, Or.inl rfl⟩
  · rw [if_neg z4]; exact ⟨rfl, by show q < q + 1; omega, by show q + 1 ≤ n; omega, Or.inr rfl⟩
theorem wdt_n (q e : Nat) : tP (wdt T q e) = q ∧ tN (wdt T q e) = e ∧ (tS (wdt T q e) = 0 ∨ tS (wdt T q e) = 1 ∨ tS (wdt T q e) = 5) := by
  unfold wdt
  cases wdx T q e with
  | some w => exact ⟨rfl, rfl, Or.inl rfl⟩
  | none =>
    show tP (if e - q ≤ 6 then _ else _) = q ∧ tN (if e - q ≤ 6 then _ else _) = e ∧ (tS (if e - q ≤ 6 then _ else _) = 0 ∨ tS (if e - q ≤ 6 then _ else _) = 1 ∨ tS (if e - q ≤ 6 then _ else _) = 5)
    by_cases z : e - q ≤ 6
    · rw [if_pos z]; exact ⟨rfl, rfl, Or.inr (Or.inl rfl)⟩
    · rw [if_neg z]; exact ⟨rfl, rfl, Or.inr (Or.inr rfl)⟩
theorem lex_n (hp : p ≤ n) : p ≤ tP (lex T n p) ∧ tP (lex T n p) ≤ n ∧ tN (lex T n p) ≤ n ∧ tS (lex T n p) ≤ 5 ∧ (tS (lex T n p) ≠ 4 → tP (lex T n p) < tN (lex T n p)) := by
  have h1 : p ≤ gon T n isWs p := gon_ge
  have h2 : gon T n isWs p ≤ n := gon_le hp
  unfold lex
  generalize gon T n isWs p = q at *
  unfold lexq
  by_cases z : n ≤ q
  · rw [if_pos z]; exact ⟨h1, h2, h2, by show 4 ≤ 5; omega, fun w => absurd rfl w⟩
  rw [if_neg z]
  by_cases zs : isSm (T q)
  · rw [cif_t zs]
    obtain ⟨a1, a2, a3⟩ := wdt_n (T := T) q (gon T n isSm q)
    have b1 : gon T n isSm q ≤ n := gon_le h2
    have b2 : q + 1 ≤ gon T n isSm q := by
      rw [gon_t (by omega) zs]; exact gon_ge
    rw [a1, a2]
    exact ⟨h1, h2, b1, by omega, fun _ => by omega⟩
  rw [cif_f zs]
  by_cases zd : isDg (T q)
  · rw [cif_t zd]
    have b1 : gon T n isDg q ≤ n := gon_le h2
    have b2 : q + 1 ≤ gon T n isDg q := by
      rw [gon_t (by omega) zd]; exact gon_ge
    exact ⟨h1, h2, b1, by show 2 ≤ 5; omega, fun _ => by show q < gon T n isDg q; omega⟩
  · rw [cif_f zd]
    obtain ⟨a1, a2, a3, a4⟩ := sgn_n (T := T) (n := n) (q := q) (by omega)
    rw [a1]
    exact ⟨h1, h2, a3, by omega, fun _ => a2⟩
theorem tks_n (i : Nat) : tP (tks T n i) ≤ n ∧ tN (tks T n i) ≤ n ∧ tS (tks T n i) ≤ 5 := by
  induction i with
  | zero =>
    have := lex_n (T := T) (n := n) (p := 0) (by omega)
    exact ⟨this.2.1, this.2.2.1, this.2.2.2.1⟩
  | succ i ih =>
    unfold tks
    by_cases z : tS (tks T n i) = 4
    · rw [if_pos z]; exact ih
    · rw [if_neg z]
      have := lex_n (T := T) (n := n) (p := tN (tks T n i)) ih.2.1
      exact ⟨this.2.1, this.2.2.1, this.2.2.2.1⟩
theorem tks_s {i : Nat} (h : tS (tks T n i) ≠ 4) : tks T n (i + 1) = lex T n (tN (tks T n i)) := if_neg h
theorem tks_gt : ∀ i, (∀ j, j ≤ i → tS (tks T n j) ≠ 4) → i + 1 ≤ tN (tks T n i) := by
  intro i
  induction i with
  | zero =>
    intro h
    have := lex_n (T := T) (n := n) (p := 0) (by omega)
    have h0 : tS (lex T n 0) ≠ 4 := h 0 (by omega)
    have := this.2.2.2.2 h0
    show 1 ≤ tN (lex T n 0)
    omega
  | succ i ih =>
    intro h
    have h1 := ih (fun j hj => h j (by omega))
    have h2 := tks_n (T := T) (n := n) i
    have h3 := h (i + 1) (by omega)
    have e := tks_s (h i (by omega))
    rw [e] at h3 ⊢
    have := lex_n (T := T) (n := n) (p := tN (tks T n i)) h2.2.1
    have := this.2.2.2.2 h3
    omega
theorem tks_end : ∃ N, N ≤ n ∧ tS (tks T n N) = 4 ∧ ∀ i, i < N → tS (tks T n i) ≠ 4 := by
  have h1 : ∃ N, N ≤ n ∧ tS (tks T n N) = 4 := by
    apply Classical.byContradiction
    intro h
    have := tks_gt (T := T) (n := n) n (fun j hj z => h ⟨j, hj, z⟩)
    have := (tks_n (T := T) (n := n) n).2.1
    omega
  have h2 : ∀ k, (∃ N, N ≤ k ∧ N ≤ n ∧ tS (tks T n N) = 4) → ∃ N, N ≤ n ∧ tS (tks T n N) = 4 ∧ ∀ i, i < N → tS (tks T n i) ≠ 4 := by
    intro k
    induction k with
    | zero =>
      rintro ⟨N, z1, z2, z3⟩
      exact ⟨N, z2, z3, fun i hi => by omega⟩
    | succ k ih =>
      rintro ⟨N, z1, z2, z3⟩
      by_cases y : ∃ M, M ≤ k ∧ M ≤ n ∧ tS (tks T n M) = 4
      · exact ih y
      · exact ⟨N, z2, z3, fun i hi w => y ⟨i, by omega, by omega, w⟩⟩
  obtain ⟨N, z1, z2⟩ := h1
  exact h2 n ⟨N, z1, z1, z2⟩
end
/-! both stand at a token -/
def RAt (σ : ah_H) (T : Nat → Nat) (n i : Nat) : Prop := LxR σ T n ∧ RTk σ (tks T n i)
def TkA (σ : ah_H) (T : Nat → Nat) (n N : Nat) : Prop := N ≤ 700 ∧ tS (tks T n N) = 4 ∧ (∀ i, i < N → tS (tks T n i) ≠ 4) ∧ ∀ i, i ≤ N → CTk (tks T n i) (ah_I σ 85 i) (ah_I σ 86 i) ∧ ah_I σ 87 i = nI (tP (tks T n i))
def CAt (σ : ah_H) (T : Nat → Nat) (n N i : Nat) : Prop := Wf σ ∧ TkA σ T n N ∧ i ≤ N ∧ ah_I σ 83 7 = nI i ∧ CTk (tks T n i) (ah_I σ 83 8) (ah_I σ 83 9) ∧ ah_I σ 83 10 = nI (tP (tks T n i)) ∧ ah_I σ 82 3 = nI 0 ∧ ah_I σ 82 4 = mI 1
def Xs8 (a j : Nat) : Prop := a = 83 ∧ 7 ≤ j ∧ j ≤ 10
section
variable {σ τ : ah_H} {T : Nat → Nat} {n p q e N i : Nat}
theorem m_tok0 (h : LxR σ T n) (h25 : ah_I σ 225 25 = nI 0) : ∃ τ, f_X12_token 225 σ = some τ ∧ Fr Xtk σ τ ∧ RAt τ T n 0 := by
  obtain ⟨τ, e1, e2, e3⟩ := m_token (p := 0) h h25 (by omega)
  exact ⟨τ, e1, e2, h.fr e2, e3⟩
theorem m_next (h : RAt σ T n i) (he : tS (tks T n i) ≠ 4) : ∃ τ, f_X12_token 225 σ = some τ ∧ Fr Xtk σ τ ∧ RAt τ T n (i + 1) := by
  obtain ⟨τ, e1, e2, e3⟩ := m_token (p := tN (tks T n i)) h.1 h.2.1 (tks_n i).2.1
  refine ⟨τ, e1, e2, h.1.fr e2, ?_⟩
  rw [tks_s he]; exact e3
theorem RAt.fr {X : Nat → Nat → Prop} (h : RAt σ T n i) (g : Fr X σ τ) (hX : ∀ a j, X a j → a ≠ 226 ∧ ¬ (a = 225 ∧ (24 ≤ j ∧ j ≤ 28 ∨ j = 30))) : RAt τ T n i := by
  have x1 : ∀ j, 24 ≤ j → j ≤ 28 → ¬ X 225 j := fun j h1 h2 z => (hX _ _ z).2 ⟨rfl, Or.inl ⟨h1, h2⟩⟩
  obtain ⟨⟨h1, h2, h3, h4, h40⟩, h5, h6, h7, h8⟩ := h
  refine ⟨⟨h1.fr g, h2, (g.I (x1 _ (by omega) (by omega))).trans h3, fun j hj => ⟨(g.I (fun z => (hX _ _ z).1 rfl)).trans (h4 j hj).1, (h4 j hj).2⟩, (g.I (fun z => (hX _ _ z).2 ⟨rfl, Or.inr rfl⟩)).trans h40⟩, (g.I (x1 _ (by omega) (by omega))).trans h5, (g.I (x1 _ (by omega) (by omega))).trans h6, (g.I (x1 _ (by omega) (by omega))).trans h7, fun z => (g.I (x1 _ (by omega) (by omega))).trans (h8 z)⟩
theorem TkA.fr {X : Nat → Nat → Prop} (h : TkA σ T n N) (g : Fr X σ τ) (hX : ∀ a j, 85 ≤ a → a ≤ 87 → ¬ X a j) : TkA τ T n N := ⟨h.1, h.2.1, h.2.2.1, fun i hi => by rw [g.I (hX _ _ (by omega) (by omega)), g.I (hX _ _ (by omega) (by omega)), g.I (hX _ _ (by omega) (by omega))]; exact h.2.2.2 i hi⟩
theorem CAt.fr {X : Nat → Nat → Prop} (h : CAt σ T n N i) (g : Fr X σ τ) (hX : ∀ a j, a = 82 ∧ (j = 3 ∨ j = 4) ∨ a = 83 ∨ 85 ≤ a ∧ a ≤ 87 → ¬ X a j) : CAt τ T n N i := by
  obtain ⟨h1, h2, h3, h4, h5, h6, h7, h8⟩ := h
  refine ⟨h1.fr g, h2.fr g (fun a j _ _ => hX a j (by omega)), h3, (g.I (hX _ _ (by omega))).trans h4, ?_, (g.I (hX _ _ (by omega))).trans h6, (g.I (hX _ _ (by omega))).trans h7, (g.I (hX _ _ (by omega))).trans h8⟩
  rw [g.I (hX _ _ (by omega)), g.I (hX _ _ (by omega))]; exact h5
theorem CTk.end4 {k : TK} {ki va : Int32} (h : CTk k ki va) : (ki = nI 0) ↔ tS k = 4 := by
  rcases h with ⟨a, b, -⟩ | ⟨a, b, -⟩ | ⟨a, b, -⟩ | ⟨a, b, -⟩ | ⟨a, b⟩ | ⟨a, b⟩ <;> rw [a, b] <;> decide
theorem c_st29 (hW : Wf σ) (hA : TkA σ T n N) (h82 : ah_I σ 82 3 = nI 0 ∧ ah_I σ 82 4 = mI 1) {c : Int32} (h7 : ah_I σ 83 7 = c) (hc : c + nI 1 = nI i) (hi : i ≤ N) : ∃ τ, f_X8_step_29 83 σ = some τ ∧ Fr Xs8 σ τ ∧ CAt τ T n N i := by
  have hN := hA.1
  have hW1 : ∀ x, Wf (ah_wI σ 83 7 x) := fun x => hW.wI _ _ _
  obtain ⟨k1, k2⟩ := hA.2.2.2 i hi
  refine ⟨ah_wI (ah_wI (ah_wI (ah_wI σ 83 7 (nI i)) 83 8 (ah_I σ 85 i)) 83 9 (ah_I σ 86 i)) 83 10 (ah_I σ 87 i), ?_, (((Fr.rfl.wI (by unfold Xs8; omega)).wI (by unfold Xs8; omega)).wI (by unfold Xs8; omega)).wI (by unfold Xs8; omega), ?_⟩
  · unfold f_X8_step_29
    simp only [to_bq, l_0, l_1, l_2, l_3, l_4, l_5, l_6, l_7, l_8, l_9, l_10, l_11, l_12, l_13, l_14, l_15, l_16, l_17, l_18, l_19, l_20, l_21, l_22, l_23, l_24, l_25, l_26, l_27, l_28, l_29, l_30, l_31, l_32, l_40, l_41, l_42, l_43, l_44, l_45, l_46, l_47, l_48, l_49, l_50, l_51, l_52, l_53, l_54, l_55, l_56, l_57, l_58, l_59, l_60, l_61, l_62, l_63, l_64, l_72, l_97, l_99, l_100, l_104, l_120, l_122, l_128, l_140, l_255, l_256, l_257, l_258, l_260, l_261, l_262, l_364, l_680, l_700, l_701, l_840, l_999, l_1023, l_1024, l_9999, l_10000, l_1000000, lm]
    simp (disch := first | (with_reducible assumption) | omega | exact ⟨by omega, by omega⟩ | ((with_reducible first | apply Wf.wI | apply Wf.wL | apply Wf.fL | apply Wf.fI | apply Wf.fr); (repeat (with_reducible first | assumption | apply Wf.wI | apply Wf.wL | apply Wf.fL | apply Wf.fI | apply Wf.fr)))) only [ck_83, gI_83, gL_83, pI_83, pZ0_83, pZ1_83, pL_83, gR_83_0, gR_83_1, gR_83_2, gR_83_3, gR_83_4, bq_n, bd_s, mp_s, rz_0, rz_1, bI_rz, h7, hc, rI_ne, rI_eq, rL_ne, rL_eq, ah_I_wL, ah_L_wI, ah_R_wI, ah_R_wL, ah_I_wR, ah_L_wR, rR_ne, rR_eq, aI_85, sI_85, len_85, aI_86, sI_86, len_86, aI_87, sI_87, len_87]
  · refine ⟨(((hW.wI _ _ _).wI _ _ _).wI _ _ _).wI _ _ _, ⟨hN, hA.2.1, hA.2.2.1, fun j hj => ?_⟩, hi, ?_, ?_, ?_, ?_, ?_⟩
    · have e : ∀ a, a ≠ 83 → ah_I (ah_wI (ah_wI (ah_wI (ah_wI σ 83 7 (nI i)) 83 8 (ah_I σ 85 i)) 83 9 (ah_I σ 86 i)) 83 10 (ah_I σ 87 i)) a j = ah_I σ a j := fun a ha => by rw [rI_ne (by omega), rI_ne (by omega), rI_ne (by omega), rI_ne (by omega)]
      rw [e 85 (by omega), e 86 (by omega), e 87 (by omega)]
      exact hA.2.2.2 j hj
    · rw [rI_ne (by omega), rI_ne (by omega), rI_ne (by omega), rI_eq]
    · rw [rI_ne (by omega), rI_ne (by omega), rI_eq, rI_ne (by omega), rI_eq]; exact k1
    · rw [rI_eq]; exact k2
    · rw [rI_ne (by omega), rI_ne (by omega), rI_ne (by omega), rI_ne (by omega)]; exact h82.1
    · rw [rI_ne (by omega), rI_ne (by omega), rI_ne (by omega), rI_ne (by omega)]; exact h82.2
theorem c_step (h : CAt σ T n N i) (he : tS (tks T n i) ≠ 4) : ∃ τ, f_X8_step 83 σ = some τ ∧ Fr Xs8 σ τ ∧ CAt τ T n N (i + 1) := by
  obtain ⟨hW, hA, h3, h4, h5, h6, h82⟩ := h
  have hN := hA.1
  have hiN : i < N := by
    apply Classical.byContradiction
    intro z
    exact he (by rw [show i = N by omega]; exact hA.2.1)
  obtain ⟨τ, e1, e2, e3⟩ := c_st29 (i := i + 1) hW hA h82 h4 (zadd _ _) (by omega)
  refine ⟨τ, ?_, e2, e3⟩
  have k1 := (hA.2.2.2 i h3).1
  have kn : ¬ ah_I σ 85 i = nI 0 := fun z => he (k1.end4.mp z)
  rw [← e1]
  unfold f_X8_step f_X8_step_0
  simp only [to_bq, l_0, l_1, l_2, l_3, l_4, l_5, l_6, l_7, l_8, l_9, l_10, l_11, l_12, l_13, l_14, l_15, l_16, l_17, l_18, l_19, l_20, l_21, l_22, l_23, l_24, l_25, l_26, l_27, l_28, l_29, l_30, l_31, l_32, l_40, l_41, l_42, l_43, l_44, l_45, l_46, l_47, l_48, l_49, l_50, l_51, l_52, l_53, l_54, l_55, l_56, l_57, l_58, l_59, l_60, l_61, l_62, l_63, l_64, l_72, l_97, l_99, l_100, l_104, l_120, l_122, l_128, l_140, l_255, l_256, l_257, l_258, l_260, l_261, l_262, l_364, l_680, l_700, l_701, l_840, l_999, l_1023, l_1024, l_9999, l_10000, l_1000000, lm]
  simp (disch := first | (with_reducible assumption) | omega | exact ⟨by omega, by omega⟩ | ((with_reducible first | apply Wf.wI | apply Wf.wL | apply Wf.fL | apply Wf.fI | apply Wf.fr); (repeat (with_reducible first | assumption | apply Wf.wI | apply Wf.wL | apply Wf.fL | apply Wf.fI | apply Wf.fr)))) only [ck_83, gI_83, gL_83, pI_83, pZ0_83, pZ1_83, pL_83, gR_83_0, gR_83_1, gR_83_2, gR_83_3, gR_83_4, aI_85, sI_85, len_85, bq_n, bd_s, mp_s, rz_0, rz_1, bI_rz, h4, le_nI, lt_nI, show (700 ≤ i) = False from eq_false (by omega), show (i < 0) = False from eq_false (by omega), if_true, if_false, ite_true, ite_false, reduceIte, not_true, not_false, and_true, true_and, and_false, false_and, or_true, true_or, or_false, false_or, eq_self, if_neg kn]
noncomputable def prv (T : Nat → Nat) (n : Nat) : Nat → Nat
  | 0 => 0
  | j + 1 => tN (tks T n j)
def Xsr (a j : Nat) : Prop := a = 83 ∨ 85 ≤ a ∧ a ≤ 87
theorem c_sr25 (h0 : LxC σ T n) {N : Nat} (hN : N ≤ n) (hNe : tS (tks T n N) = 4) (hNl : ∀ i, i < N → tS (tks T n i) ≠ 4) : ∀ f i fu τ, N + 1 - i ≤ f → f < fu → i ≤ N + 1 → Fr Xsr σ τ → LxC τ T n → ah_I τ 83 6 = nI (prv T n i) → (i = 0 → ah_I τ 83 8 = nI 3) → (∀ j, i = j + 1 → CTk (tks T n j) (ah_I τ 83 8) (ah_I τ 83 9)) → (∀ j, j < i → CTk (tks T n j) (ah_I τ 85 j) (ah_I τ 86 j) ∧ ah_I τ 87 j = nI (tP (tks T n j))) → ∃ τ', f_X8_start_25 fu 83 (nI i) τ = f_X8_start_79 83 τ' ∧ Fr Xsr σ τ' ∧ TkA τ' T n N := by
  have h7 := h0.2.1
  intro f
  induction f with
  | zero =>
    intro i fu τ hi hf hi2 g h h6 h83 hk ha
    obtain ⟨fu, rfl⟩ : ∃ q, fu = q + 1 := ⟨fu - 1, by omega⟩
    obtain rfl : i = N + 1 := by omega
    have hW := h.1
    have k0 := (hk N rfl).end4.mpr hNe
    refine ⟨τ, ?_, g, by omega, hNe, hNl, fun j hj => ha j (by omega)⟩
    show f_X8_start_25_b _ _ _ _ = _
    unfold f_X8_start_25_b
    simp only [to_bq, l_0, l_1, l_2, l_3, l_4, l_5, l_6, l_7, l_8, l_9, l_10, l_11, l_12, l_13, l_14, l_15, l_16, l_17, l_18, l_19, l_20, l_21, l_22, l_23, l_24, l_25, l_26, l_27, l_28, l_29, l_30, l_31, l_32, l_40, l_41, l_42, l_43, l_44, l_45, l_46, l_47, l_48, l_49, l_50, l_51, l_52, l_53, l_54, l_55, l_56, l_57, l_58, l_59, l_60, l_61, l_62, l_63, l_64, l_72, l_97, l_99, l_100, l_104, l_120, l_122, l_128, l_140, l_255, l_256, l_257, l_258, l_260, l_261, l_262, l_364, l_680, l_700, l_701, l_840, l_999, l_1023, l_1024, l_9999, l_10000, l_1000000, lm]
    simp (disch := first | (with_reducible assumption) | omega | exact ⟨by omega, by omega⟩ | ((with_reducible first | apply Wf.wI | apply Wf.wL | apply Wf.fL | apply Wf.fI | apply Wf.fr); (repeat (with_reducible first | assumption | apply Wf.wI | apply Wf.wL | apply Wf.fL | apply Wf.fI | apply Wf.fr)))) only [ck_83, gI_83, gL_83, pI_83, pZ0_83, pZ1_83, pL_83, gR_83_0, gR_83_1, gR_83_2, gR_83_3, gR_83_4, bq_n, bd_s, mp_s, rz_0, rz_1, bI_rz, k0, if_true, if_false, ite_true, ite_false, reduceIte, not_true, not_false, and_true, true_and, and_false, false_and, or_true, true_or, or_false, false_or, eq_self, ite_self]
  | succ f ih =>
    intro i fu τ hi hf hi2 g h h6 h83 hk ha
    obtain ⟨fu, rfl⟩ : ∃ q, fu = q + 1 := ⟨fu - 1, by omega⟩
    have hW := h.1
    by_cases z : i = N + 1
    · subst z
      have k0 := (hk N rfl).end4.mpr hNe
      refine ⟨τ, ?_, g, by omega, hNe, hNl, fun j hj => ha j (by omega)⟩
      show f_X8_start_25_b _ _ _ _ = _
      unfold f_X8_start_25_b
      simp only [to_bq, l_0, l_1, l_2, l_3, l_4, l_5, l_6, l_7, l_8, l_9, l_10, l_11, l_12, l_13, l_14, l_15, l_16, l_17, l_18, l_19, l_20, l_21, l_22, l_23, l_24, l_25, l_26, l_27, l_28, l_29, l_30, l_31, l_32, l_40, l_41, l_42, l_43, l_44, l_45, l_46, l_47, l_48, l_49, l_50, l_51, l_52, l_53, l_54, l_55, l_56, l_57, l_58, l_59, l_60, l_61, l_62, l_63, l_64, l_72, l_97, l_99, l_100, l_104, l_120, l_122, l_128, l_140, l_255, l_256, l_257, l_258, l_260, l_261, l_262, l_364, l_680, l_700, l_701, l_840, l_999, l_1023, l_1024, l_9999, l_10000, l_1000000, lm]
      simp (disch := first | (with_reducible assumption) | omega | exact ⟨by omega, by omega⟩ | ((with_reducible first | apply Wf.wI | apply Wf.wL | apply Wf.fL | apply Wf.fI | apply Wf.fr); (repeat (with_reducible first | assumption | apply Wf.wI | apply Wf.wL | apply Wf.fL | apply Wf.fI | apply Wf.fr)))) only [ck_83, gI_83, gL_83, pI_83, pZ0_83, pZ1_83, pL_83, gR_83_0, gR_83_1, gR_83_2, gR_83_3, gR_83_4, bq_n, bd_s, mp_s, rz_0, rz_1, bI_rz, k0, if_true, if_false, ite_true, ite_false, reduceIte, not_true, not_false, and_true, true_and, and_false, false_and, or_true, true_or, or_false, false_or, eq_self, ite_self]
    · -- the next one is cut
      have hk0 : ¬ ah_I τ 83 8 = nI 0 := by
        cases i with
        | zero => rw [h83 rfl]; decide
        | succ j => exact fun w => hNl j (by omega) ((hk j rfl).end4.mp w)
      have hp : (prv T n i) ≤ n := by
        cases i with
        | zero => exact Nat.zero_le _
        | succ j => exact (tks_n j).2.1
      have elx : lex T n (prv T n i) = tks T n i := by
        cases i with
        | zero => rfl
        | succ j => exact (tks_s (hNl j (by omega))).symm
      obtain ⟨τ1, e1, e2, c1, c2, c3⟩ := c_cut h h6 hp
      rw [elx] at c1 c2 c3
      have hW1 : Wf τ1 := hW.fr e2
      have f2 : Fr Xsr τ1 (ah_wI (ah_wI (ah_wI τ1 85 i (ah_I τ1 83 8)) 86 i (ah_I τ1 83 9)) 87 i (ah_I τ1 83 10)) := ((Fr.rfl.wI (by unfold Xsr; omega)).wI (by unfold Xsr; omega)).wI (by unfold Xsr; omega)
      have v83 : ∀ j, ah_I (ah_wI (ah_wI (ah_wI τ1 85 i (ah_I τ1 83 8)) 86 i (ah_I τ1 83 9)) 87 i (ah_I τ1 83 10)) 83 j = ah_I τ1 83 j := fun j => by rw [rI_ne (by omega), rI_ne (by omega), rI_ne (by omega)]
      have vx : ∀ a j, a ≠ 85 → a ≠ 86 → a ≠ 87 → ah_I (ah_wI (ah_wI (ah_wI τ1 85 i (ah_I τ1 83 8)) 86 i (ah_I τ1 83 9)) 87 i (ah_I τ1 83 10)) a j = ah_I τ1 a j := fun a j _ _ _ => by rw [rI_ne (by omega), rI_ne (by omega), rI_ne (by omega)]
      have he : f_X8_start_25 (fu + 1) 83 (nI i) τ = f_X8_start_25 fu 83 (nI (i + 1)) (ah_wI (ah_wI (ah_wI τ1 85 i (ah_I τ1 83 8)) 86 i (ah_I τ1 83 9)) 87 i (ah_I τ1 83 10)) := by
        show f_X8_start_25_b _ _ _ _ = _
        unfold f_X8_start_25_b
        simp only [to_bq, l_0, l_1, l_2, l_3, l_4, l_5, l_6, l_7, l_8, l_9, l_10, l_11, l_12, l_13, l_14, l_15, l_16, l_17, l_18, l_19, l_20, l_21, l_22, l_23, l_24, l_25, l_26, l_27, l_28, l_29, l_30, l_31, l_32, l_40, l_41, l_42, l_43, l_44, l_45, l_46, l_47, l_48, l_49, l_50, l_51, l_52, l_53, l_54, l_55, l_56, l_57, l_58, l_59, l_60, l_61, l_62, l_63, l_64, l_72, l_97, l_99, l_100, l_104, l_120, l_122, l_128, l_140, l_255, l_256, l_257, l_258, l_260, l_261, l_262, l_364, l_680, l_700, l_701, l_840, l_999, l_1023, l_1024, l_9999, l_10000, l_1000000, lm]
        rw [if_neg (by rw [lt_nI (by omega) (by omega)]; omega)]
        simp (disch := first | (with_reducible assumption) | omega | exact ⟨by omega, by omega⟩ | ((with_reducible first | apply Wf.wI | apply Wf.wL | apply Wf.fL | apply Wf.fI | apply Wf.fr); (repeat (with_reducible first | assumption | apply Wf.wI | apply Wf.wL | apply Wf.fL | apply Wf.fI | apply Wf.fr)))) only [ck_83, gI_83, gL_83, pI_83, pZ0_83, pZ1_83, pL_83, gR_83_0, gR_83_1, gR_83_2, gR_83_3, gR_83_4, bq_n, bd_s, mp_s, rz_0, rz_1, bI_rz, if_neg hk0, e1, aI_85, sI_85, len_85, aI_86, sI_86, len_86, aI_87, sI_87, len_87, rI_ne, rI_eq, rL_ne, rL_eq, ah_I_wL, ah_L_wI, ah_R_wI, ah_R_wL, ah_I_wR, ah_L_wR, rR_ne, rR_eq, zadd]
      rw [he]
      have h1 : LxC τ1 T n := h.fr e2
      refine ih (i + 1) fu _ (by omega) (by omega) (by omega) ((g.trans (e2.mono (fun a j z => by unfold Xct at z; unfold Xsr; omega))).trans f2) ?_ ?_ (fun w => by omega) (fun j hj => ?_) (fun j hj => ?_)
      · exact ⟨h1.1.fr f2, h1.2.1, by rw [v83]; exact h1.2.2.1, fun j hj => by rw [vx 1 j (by omega) (by omega) (by omega)]; exact h1.2.2.2.1 j hj, fun k hk => by rw [vx 84 k (by omega) (by omega) (by omega)]; exact h1.2.2.2.2 k hk⟩
      · rw [v83]; exact c3
      · obtain rfl : i = j := by omega
        rw [v83, v83]; exact c1
      · by_cases y : j = i
        · subst y
          rw [rI_ne (by omega), rI_ne (by omega), rI_eq, rI_ne (by omega), rI_eq, rI_eq]
          exact ⟨c1, c2⟩
        · rw [rI_ne (by omega), rI_ne (by omega), rI_ne (by omega), rI_ne (by omega), rI_ne (by omega), rI_ne (by omega), rI_ne (by omega), rI_ne (by omega), rI_ne (by omega), e2.I (by unfold Xct; omega), e2.I (by unfold Xct; omega), e2.I (by unfold Xct; omega)]
          exact ha j (by omega)
theorem c_start (hW : Wf σ) (hn : n ≤ 700) (hb : ∀ j, j < n → ah_I σ 1 j = bvt (T j) ∧ T j ≤ 255) (hk : ∀ k, k < 24 → ah_I σ 84 k = kyv k) (h82 : ah_I σ 82 3 = nI 0 ∧ ah_I σ 82 4 = mI 1) : ∃ τ N, f_X8_start 83 (nI n) σ = some τ ∧ Fr Xsr σ τ ∧ CAt τ T n N 0 := by
  obtain ⟨N, hN, hNe, hNl⟩ := tks_end (T := T) (n := n)
  have f0 : Fr Xsr σ (ah_wI (ah_wI (ah_wI σ 83 5 (nI n)) 83 6 (nI 0)) 83 8 (nI 3)) := ((Fr.rfl.wI (by unfold Xsr; omega)).wI (by unfold Xsr; omega)).wI (by unfold Xsr; omega)
  have h0 : LxC (ah_wI (ah_wI (ah_wI σ 83 5 (nI n)) 83 6 (nI 0)) 83 8 (nI 3)) T n := ⟨hW.fr f0, hn, by rw [rI_ne (by omega), rI_ne (by omega), rI_eq], fun j hj => by rw [rI_ne (by omega), rI_ne (by omega), rI_ne (by omega)]; exact hb j hj, fun k hk' => by rw [rI_ne (by omega), rI_ne (by omega), rI_ne (by omega)]; exact hk k hk'⟩
  obtain ⟨τ1, e1, e2, e3⟩ := c_sr25 h0 hN hNe hNl (N + 1) 0 5000 _ (by omega) (by omega) (by omega) Fr.rfl h0 (by rw [rI_ne (by omega), rI_eq]; rfl) (fun _ => rI_eq) (fun j hj => by omega) (fun j hj => by omega)
  have hW1 : Wf τ1 := h0.1.fr e2
  have f2 : Fr Xsr τ1 (ah_wI τ1 83 7 (mI 1)) := Fr.rfl.wI (by unfold Xsr; omega)
  have hA2 : TkA (ah_wI τ1 83 7 (mI 1)) T n N := e3.fr (X := fun a j => a = 83 ∧ j = 7) (Fr.rfl.wI ⟨rfl, rfl⟩) (fun a j _ _ => by omega)
  have h83 : ah_I (ah_wI τ1 83 7 (mI 1)) 82 3 = nI 0 ∧ ah_I (ah_wI τ1 83 7 (mI 1)) 82 4 = mI 1 := ⟨by rw [f2.I (by unfold Xsr; omega), e2.I (by unfold Xsr; omega), f0.I (by unfold Xsr; omega)]; exact h82.1, by rw [f2.I (by unfold Xsr; omega), e2.I (by unfold Xsr; omega), f0.I (by unfold Xsr; omega)]; exact h82.2⟩
  obtain ⟨τ2, k1, k2, k3⟩ := c_st29 (i := 0) (hW1.wI 83 7 (mI 1)) hA2 h83 (c := mI 1) rI_eq (by decide) (by omega)
  refine ⟨τ2, N, ?_, ((f0.trans e2).trans f2).trans (k2.mono (fun a j z => by unfold Xs8 at z; unfold Xsr; omega)), k3⟩
  have hmin : op_mini (nI n) (nI 700) = nI n := by
    rw [jI_n, jI_n, mini_j ⟨by omega, by omega⟩ ⟨by omega, by omega⟩]
    congr 1; omega
  have e79 : f_X8_start_79 83 τ1 = some τ2 := by
    unfold f_X8_start_79 f_X8_step f_X8_step_0
    simp only [to_bq, l_0, l_1, l_2, l_3, l_4, l_5, l_6, l_7, l_8, l_9, l_10, l_11, l_12, l_13, l_14, l_15, l_16, l_17, l_18, l_19, l_20, l_21, l_22, l_23, l_24, l_25, l_26, l_27, l_28, l_29, l_30, l_31, l_32, l_40, l_41, l_42, l_43, l_44, l_45, l_46, l_47, l_48, l_49, l_50, l_51, l_52, l_53, l_54, l_55, l_56, l_57, l_58, l_59, l_60, l_61, l_62, l_63, l_64, l_72, l_97, l_99, l_100, l_104, l_120, l_122, l_128, l_140, l_255, l_256, l_257, l_258, l_260, l_261, l_262, l_364, l_680, l_700, l_701, l_840, l_999, l_1023, l_1024, l_9999, l_10000, l_1000000, lm]
    simp (disch := first | (with_reducible assumption) | omega | exact ⟨by omega, by omega⟩ | ((with_reducible first | apply Wf.wI | apply Wf.wL | apply Wf.fL | apply Wf.fI | apply Wf.fr); (repeat (with_reducible first | assumption | apply Wf.wI | apply Wf.wL | apply Wf.fL | apply Wf.fI | apply Wf.fr)))) only [ck_83, gI_83, gL_83, pI_83, pZ0_83, pZ1_83, pL_83, gR_83_0, gR_83_1, gR_83_2, gR_83_3, gR_83_4, bq_n, bd_s, mp_s, rz_0, rz_1, bI_rz, rI_ne, rI_eq, rL_ne, rL_eq, ah_I_wL, ah_L_wI, ah_R_wI, ah_R_wL, ah_I_wR, ah_L_wR, rR_ne, rR_eq, show (nI 700 ≤ mI 1) = False from eq_false (by decide), show (mI 1 < nI 0) = True from eq_true (by decide), if_true, if_false, ite_true, ite_false, reduceIte, not_true, not_false, and_true, true_and, and_false, false_and, or_true, true_or, or_false, false_or, eq_self, k1]
  rw [← e79, ← e1]
  unfold f_X8_start f_X8_start_0
  simp only [to_bq, l_0, l_1, l_2, l_3, l_4, l_5, l_6, l_7, l_8, l_9, l_10, l_11, l_12, l_13, l_14, l_15, l_16, l_17, l_18, l_19, l_20, l_21, l_22, l_23, l_24, l_25, l_26, l_27, l_28, l_29, l_30, l_31, l_32, l_40, l_41, l_42, l_43, l_44, l_45, l_46, l_47, l_48, l_49, l_50, l_51, l_52, l_53, l_54, l_55, l_56, l_57, l_58, l_59, l_60, l_61, l_62, l_63, l_64, l_72, l_97, l_99, l_100, l_104, l_120, l_122, l_128, l_140, l_255, l_256, l_257, l_258, l_260, l_261, l_262, l_364, l_680, l_700, l_701, l_840, l_999, l_1023, l_1024, l_9999, l_10000, l_1000000, lm]
  simp (disch := first | (with_reducible assumption) | omega | exact ⟨by omega, by omega⟩ | ((with_reducible first | apply Wf.wI | apply Wf.wL | apply Wf.fL | apply Wf.fI | apply Wf.fr); (repeat (with_reducible first | assumption | apply Wf.wI | apply Wf.wL | apply Wf.fL | apply Wf.fI | apply Wf.fr)))) only [ck_83, gI_83, gL_83, pI_83, pZ0_83, pZ1_83, pL_83, gR_83_0, gR_83_1, gR_83_2, gR_83_3, gR_83_4, bq_n, bd_s, mp_s, rz_0, rz_1, bI_rz, aB_1, sB_1, len_1, ofN, hmin]
end
