/-! THE CLASS: the net -/
def NetR (σ : ah_H) (D : DD) : Prop := ∀ c, c < 7 → ah_I σ 91 c = D 248 c ∧ (D 248 c ≠ mI 1 → ah_I σ 92 c = D 249 c ∧ ah_I σ 93 c = D 250 c ∧ ah_I σ 94 c = D 251 c)
def RowR (σ : ah_H) (a : Nat) (st pi x y : Nat → Int32) : Prop := ∀ c, c < 7 → ah_I σ a c = st c ∧ (st c ≠ mI 1 → ah_I σ a (7 + c) = pi c ∧ ah_I σ a (14 + c) = x c ∧ ah_I σ a (21 + c) = y c)
/-- what can be undone, the image -/
def PastR (σ : ah_H) (D : DD) : Prop := ah_I σ 90 4 = D 225 52 ∧ (∃ o, o < 20 ∧ ah_I σ 90 7 = nI o ∧ ∀ i, i < km D → RowR σ (96 + (o + i) % 20) (fun c => D 255 (7 * i + c)) (fun c => D 256 (7 * i + c)) (fun c => D 257 (7 * i + c)) (fun c => D 258 (7 * i + c))) ∧ ah_I σ 90 5 = D 225 57 ∧ (D 225 57 = nI 1 → RowR σ 116 (D 259) (D 260) (D 261) (D 262))
theorem RowR.fr {σ τ : ah_H} {a : Nat} {st pi x y : Nat → Int32} (h : RowR σ a st pi x y) (e : ∀ j, j < 28 → ah_I τ a j = ah_I σ a j) : RowR τ a st pi x y := by
  intro c hc
  rw [e c (by omega), e (7 + c) (by omega), e (14 + c) (by omega), e (21 + c) (by omega)]
  exact h c hc
theorem NetR.fr {X : Nat → Nat → Prop} {σ τ : ah_H} {D : DD} (h : NetR σ D) (g : Fr X σ τ) (hX : ∀ a j, 91 ≤ a → a ≤ 94 → ¬ X a j) : NetR τ D := by
  intro c hc
  rw [g.I (hX 91 _ (by omega) (by omega)), g.I (hX 92 _ (by omega) (by omega)), g.I (hX 93 _ (by omega) (by omega)), g.I (hX 94 _ (by omega) (by omega))]
  exact h c hc
theorem PastR.fr {X : Nat → Nat → Prop} {σ τ : ah_H} {D : DD} (h : PastR σ D) (g : Fr X σ τ) (hX : ∀ a j, a = 90 ∨ 96 ≤ a ∧ a ≤ 116 → ¬ X a j) : PastR τ D := by
  obtain ⟨h1, ⟨o, ho, h2, h3⟩, h4, h5⟩ := h
  refine ⟨(g.I (hX _ _ (by omega))).trans h1, ⟨o, ho, (g.I (hX _ _ (by omega))).trans h2, fun i hi => (h3 i hi).fr (fun j _ => g.I (hX _ _ (by omega)))⟩, (g.I (hX _ _ (by omega))).trans h4, fun q => (h5 q).fr (fun j _ => g.I (hX _ _ (by omega)))⟩
theorem op_ix_cp {σ : ah_H} {a0 a n0 n1 sp dq n : Nat} (hw : Wf σ) (h0 : S0[a0]? = some (.inl (.int, n0))) (h1 : S0[a]? = some (.inl (.int, n1))) (e1 : sp + n ≤ n0) (e2 : dq + n ≤ n1) (b0 : n0 < 10000) (b1 : n1 < 10000) : op_cp σ a0 (nI sp) a (nI dq) (nI n) = some (ah_cp σ a0 sp a dq n) := by
  unfold op_cp
  rw [hw.len h0, bd_s, hw.len h1, bd_s, nI_clamp (by omega), nI_clamp (by omega), nI_clamp (by omega), if_neg]
  rw [l_0, nI_lt0 (by omega), nI_lt0 (by omega), nI_lt0 (by omega)]
  rintro (h | h | h | h | h)
  · exact h
  · exact h
  · exact h
  · omega
  · omega
theorem I_cp (σ : ah_H) (a0 sp a dq n b j : Nat) : ah_I (ah_cp σ a0 sp a dq n) b j = if b = a ∧ dq ≤ j ∧ j < dq + n then ah_I σ a0 (sp + (j - dq)) else ah_I σ b j := rfl
theorem L_cp (σ : ah_H) (a0 sp a dq n b j : Nat) : ah_L (ah_cp σ a0 sp a dq n) b j = ah_L σ b j := rfl
theorem Wf.cp {σ : ah_H} (h : Wf σ) (a0 sp a dq n : Nat) : Wf (ah_cp σ a0 sp a dq n) := h
theorem Fr.cp {X : Nat → Nat → Prop} {σ τ : ah_H} (h : Fr X σ τ) {a0 sp a dq n : Nat} (hx : ∀ j, dq ≤ j → j < dq + n → X a j) : Fr X σ (ah_cp τ a0 sp a dq n) := by
  refine h.trans ⟨fun b j n => ⟨?_, Eq.refl _⟩, fun _ _ _ => Eq.refl _, Eq.refl _⟩
  rw [I_cp, if_neg]
  rintro ⟨rfl, h1, h2⟩
  exact n (hx j h1 h2)
section
variable {σ : ah_H} {D : DD}
def wrT (σ : ah_H) (a : Nat) : ah_H := ah_cp (ah_cp (ah_cp (ah_cp σ 91 0 a 0 7) 92 0 a 7 7) 93 0 a 14 7) 94 0 a 21 7
def rdF (σ : ah_H) (a : Nat) : ah_H := ah_cp (ah_cp (ah_cp (ah_cp σ a 0 91 0 7) a 7 92 0 7) a 14 93 0 7) a 21 94 0 7
theorem c_writeTo (hw : Wf σ) {a : Nat} (ha : S0[a]? = some (.inl (.int, 28))) : f_X5_writeTo 90 a σ = some (wrT σ a) := by
  have w1 := hw.cp 91 0 a 0 7
  have w2 := w1.cp 92 0 a 7 7
  have w3 := w2.cp 93 0 a 14 7
  unfold f_X5_writeTo f_X5_writeTo_0
  simp only [to_bq, l_0, l_1, l_2, l_3, l_4, l_5, l_6, l_7, l_8, l_9, l_10, l_11, l_12, l_13, l_14, l_15, l_16, l_17, l_18, l_19, l_20, l_21, l_22, l_23, l_24, l_25, l_26, l_27, l_28, l_29, l_30, l_31, l_32, l_40, l_41, l_42, l_43, l_44, l_45, l_46, l_47, l_48, l_49, l_50, l_51, l_52, l_53, l_54, l_55, l_56, l_57, l_58, l_59, l_60, l_61, l_62, l_63, l_64, l_72, l_97, l_99, l_100, l_104, l_120, l_122, l_128, l_140, l_255, l_256, l_257, l_258, l_260, l_261, l_262, l_364, l_680, l_700, l_701, l_840, l_999, l_1023, l_1024, l_9999, l_10000, l_1000000, lm]
  rw [ck_90 hw, gR_90_0 hw, bq_s, op_ix_cp hw S0_91 ha (by omega) (by omega) (by omega) (by omega), bq_s, gR_90_1 w1, bq_s, op_ix_cp w1 S0_92 ha (by omega) (by omega) (by omega) (by omega), bq_s, gR_90_2 w2, bq_s, op_ix_cp w2 S0_93 ha (by omega) (by omega) (by omega) (by omega), bq_s, gR_90_3 w3, bq_s, op_ix_cp w3 S0_94 ha (by omega) (by omega) (by omega) (by omega), bq_s]
  rfl
theorem c_readFrom (hw : Wf σ) {a : Nat} (ha : S0[a]? = some (.inl (.int, 28))) : f_X5_readFrom 90 a σ = some (rdF σ a) := by
  have w1 := hw.cp a 0 91 0 7
  have w2 := w1.cp a 7 92 0 7
  have w3 := w2.cp a 14 93 0 7
  unfold f_X5_readFrom f_X5_readFrom_0
  simp only [to_bq, l_0, l_1, l_2, l_3, l_4, l_5, l_6, l_7, l_8, l_9, l_10, l_11, l_12, l_13, l_14, l_15, l_16, l_17, l_18, l_19, l_20, l_21, l_22, l_23, l_24, l_25, l_26, l_27, l_28, l_29, l_30, l_31, l_32, l_40, l_41, l_42, l_43, l_44, l_45, l_46, l_47, l_48, l_49, l_50, l_51, l_52, l_53, l_54, l_55, l_56, l_57, l_58, l_59, l_60, l_61, l_62, l_63, l_64, l_72, l_97, l_99, l_100, l_104, l_120, l_122, l_128, l_140, l_255, l_256, l_257, l_258, l_260, l_261, l_262, l_364, l_680, l_700, l_701, l_840, l_999, l_1023, l_1024, l_9999, l_10000, l_1000000, lm]
  rw [ck_90 hw, gR_90_0 hw, bq_s, op_ix_cp hw ha S0_91 (by omega) (by omega) (by omega) (by omega), bq_s, gR_90_1 w1, bq_s, op_ix_cp w1 ha S0_92 (by omega) (by omega) (by omega) (by omega), bq_s, gR_90_2 w2, bq_s, op_ix_cp w2 ha S0_93 (by omega) (by omega) (by omega) (by omega), bq_s, gR_90_3 w3, bq_s, op_ix_cp w3 ha S0_94 (by omega) (by omega) (by omega) (by omega), bq_s]
  rfl
theorem wrT_fr {a : Nat} : Fr (XR a) σ (wrT σ a) := by
  unfold wrT
  exact (((Fr.rfl.cp (fun j _ _ => rfl)).cp (fun j _ _ => rfl)).cp (fun j _ _ => rfl)).cp (fun j _ _ => rfl)
theorem rdF_fr {a : Nat} : Fr (fun b _ => 91 ≤ b ∧ b ≤ 94) σ (rdF σ a) := by
  unfold rdF
  exact (((Fr.rfl.cp (fun j _ _ => by omega)).cp (fun j _ _ => by omega)).cp (fun j _ _ => by omega)).cp (fun j _ _ => by omega)
theorem wrT_row (h : NetR σ D) {a : Nat} (ha : 94 < a) : RowR (wrT σ a) a (D 248) (D 249) (D 250) (D 251) := by
  intro c hc
  have e : ∀ b j, 91 ≤ b → b ≤ 94 → ah_I (ah_cp (ah_cp (ah_cp σ 91 0 a 0 7) 92 0 a 7 7) 93 0 a 14 7) b j = ah_I σ b j ∧ ah_I (ah_cp (ah_cp σ 91 0 a 0 7) 92 0 a 7 7) b j = ah_I σ b j ∧ ah_I (ah_cp σ 91 0 a 0 7) b j = ah_I σ b j := by
    intro b j h1 h2
    simp only [I_cp]
    refine ⟨?_, ?_, ?_⟩ <;> simp only [show (b = a) = False from eq_false (by omega), false_and, if_false]
  have e1 : ah_I (wrT σ a) a c = ah_I σ 91 c := by
    unfold wrT
    rw [I_cp, if_neg (by omega), I_cp, if_neg (by omega), I_cp, if_neg (by omega), I_cp, if_pos (by omega)]
    exact I_cg rfl (by omega)
  have e2 : ah_I (wrT σ a) a (7 + c) = ah_I σ 92 c := by
    unfold wrT
    rw [I_cp, if_neg (by omega), I_cp, if_neg (by omega), I_cp, if_pos (by omega), (e 92 _ (by omega) (by omega)).2.2]
    exact I_cg rfl (by omega)
  have e3 : ah_I (wrT σ a) a (14 + c) = ah_I σ 93 c := by
    unfold wrT
    rw [I_cp, if_neg (by omega), I_cp, if_pos (by omega), (e 93 _ (by omega) (by omega)).2.1]
    exact I_cg rfl (by omega)
  have e4 : ah_I (wrT σ a) a (21 + c) = ah_I σ 94 c := by
    unfold wrT
    rw [I_cp, if_pos (by omega), (e 94 _ (by omega) (by omega)).1]
    exact I_cg rfl (by omega)
  rw [e1, e2, e3, e4]
  exact h c hc
theorem rdF_net {a : Nat} (ha : 94 < a) {st pi x y : Nat → Int32} (h : RowR σ a st pi x y) : ∀ c, c < 7 → ah_I (rdF σ a) 91 c = st c ∧ (st c ≠ mI 1 → ah_I (rdF σ a) 92 c = pi c ∧ ah_I (rdF σ a) 93 c = x c ∧ ah_I (rdF σ a) 94 c = y c) := by
  intro c hc
  have e1 : ah_I (rdF σ a) 91 c = ah_I σ a c := by
    unfold rdF
    rw [I_cp, if_neg (by omega), I_cp, if_neg (by omega), I_cp, if_neg (by omega), I_cp, if_pos (by omega)]
    exact I_cg rfl (by omega)
  have e2 : ah_I (rdF σ a) 92 c = ah_I σ a (7 + c) := by
    unfold rdF
    rw [I_cp, if_neg (by omega), I_cp, if_neg (by omega), I_cp, if_pos (by omega), I_cp, if_neg (by omega)]
    exact I_cg rfl (by omega)
  have e3 : ah_I (rdF σ a) 93 c = ah_I σ a (14 + c) := by
    unfold rdF
    rw [I_cp, if_neg (by omega), I_cp, if_pos (by omega), I_cp, if_neg (by omega), I_cp, if_neg (by omega)]
    exact I_cg rfl (by omega)
  have e4 : ah_I (rdF σ a) 94 c = ah_I σ a (21 + c) := by
    unfold rdF
    rw [I_cp, if_pos (by omega), I_cp, if_neg (by omega), I_cp, if_neg (by omega), I_cp, if_neg (by omega)]
    exact I_cg rfl (by omega)
  rw [e1, e2, e3, e4]
  exact h c hc
def Xm (a j : Nat) : Prop := 96 ≤ a ∧ a < 116 ∨ a = 90 ∧ (j = 4 ∨ j = 7)
theorem c_remember (hw : Wf σ) (hN : NetR σ D) (hP : PastR σ D) (hn : MN D) : ∃ ρ, f_X5_remember 90 σ = some ρ ∧ Fr Xm σ ρ ∧ PastR ρ (dKeep D) := by
  obtain ⟨h1, ⟨o, ho, h2, h3⟩, h4, h5⟩ := hP
  have h20 := hn.qk20
  have hk := dKeep_km hn
  rw [hn.qkm] at h1
  have hrow := S0_past (c := (o + km D) % 20) (by omega)
  have hw2 : Wf (wrT σ (96 + (o + km D) % 20)) := hw.fr wrT_fr
  have r4 : ah_I (wrT σ (96 + (o + km D) % 20)) 90 4 = nI (km D) := (wrT_fr.I (by unfold XR; omega)).trans h1
  have r7 : ah_I (wrT σ (96 + (o + km D) % 20)) 90 7 = nI o := (wrT_fr.I (by unfold XR; omega)).trans h2
  have hnew := wrT_row hN (a := 96 + (o + km D) % 20) (by omega)
  have fw : Fr Xm σ (wrT σ (96 + (o + km D) % 20)) := wrT_fr.mono (fun a j q => by unfold XR at q; unfold Xm; omega)
  have r1 : op_rem (nI (o + km D)) (nI 20) = some (nI ((o + km D) % 20)) := rem_nI (by omega) (by omega) (by omega)
  have r2 : op_rem (nI (o + 1)) (nI 20) = some (nI ((o + 1) % 20)) := rem_nI (by omega) (by omega) (by omega)
  have hold : ∀ i, i < km D → (o + i) % 20 ≠ (o + km D) % 20 → RowR (wrT σ (96 + (o + km D) % 20)) (96 + (o + i) % 20) (fun c => D 255 (7 * i + c)) (fun c => D 256 (7 * i + c)) (fun c => D 257 (7 * i + c)) (fun c => D 258 (7 * i + c)) := fun i hi hne => (h3 i hi).fr (fun j _ => wrT_fr.I (by unfold XR; omega))
  have hT : ∀ a, 226 ≤ a → a < 255 ∨ 258 < a → dKeep D a = D a := fun a h1 h2 => funext fun j => dKeep_o D (by omega)
  have e57 : dKeep D 225 57 = D 225 57 := dKeep_o D (by omega)
  have himg : ∀ ρ : ah_H, Fr Xm σ ρ → ah_I ρ 90 5 = dKeep D 225 57 ∧ (dKeep D 225 57 = nI 1 → RowR ρ 116 (dKeep D 259) (dKeep D 260) (dKeep D 261) (dKeep D 262)) := by
    intro ρ g
    rw [e57, hT 259 (by omega) (by omega), hT 260 (by omega) (by omega), hT 261 (by omega) (by omega), hT 262 (by omega) (by omega)]
    exact ⟨(g.I (by unfold Xm; omega)).trans h4, fun q => (h5 q).fr (fun j _ => g.I (by unfold Xm; omega))⟩
  unfold f_X5_remember f_X5_remember_0
  simp only [to_bq, l_0, l_1, l_2, l_3, l_4, l_5, l_6, l_7, l_8, l_9, l_10, l_11, l_12, l_13, l_14, l_15, l_16, l_17, l_18, l_19, l_20, l_21, l_22, l_23, l_24, l_25, l_26, l_27, l_28, l_29, l_30, l_31, l_32, l_40, l_41, l_42, l_43, l_44, l_45, l_46, l_47, l_48, l_49, l_50, l_51, l_52, l_53, l_54, l_55, l_56, l_57, l_58, l_59, l_60, l_61, l_62, l_63, l_64, l_72, l_97, l_99, l_100, l_104, l_120, l_122, l_128, l_140, l_255, l_256, l_257, l_258, l_260, l_261, l_262, l_364, l_680, l_700, l_701, l_840, l_999, l_1023, l_1024, l_9999, l_10000, l_1000000, lm]
  rw [ck_90 hw, gR_90_6 hw, bq_s, gI_90 (j := 7) hw, bq_s, gI_90 (j := 4) hw, bq_s, h2, h1, zadd, r1, bq_s, aR_past hw (by omega), bq_s, c_writeTo hw hrow, bq_s, gI_90 (j := 4) hw2, bq_s, r4]
  by_cases q : km D = 20
  · rw [if_pos (by rw [le_nI (by omega) (by omega)]; omega), gI_90 (j := 7) hw2, bq_s, r7, zadd, r2, bq_s, pI_90 hw2, bq_s]
    have fw2 := fw.wI (a := 90) (i := 7) (x := nI ((o + 1) % 20)) (by unfold Xm; omega)
    refine ⟨_, rfl, fw2, ?_, ⟨(o + 1) % 20, by omega, rI_eq, fun i hi => ?_⟩, himg _ fw2⟩
    · rw [rI_ne (Or.inr (by omega)), r4]
      unfold dKeep
      rw [if_pos ⟨rfl, rfl⟩, if_pos q, q]
    · rw [hk, if_pos q] at hi
      have hmm : ((o + 1) % 20 + i) % 20 = (o + (i + 1)) % 20 := by omega
      rw [hmm]
      have ef : ∀ j, ah_I (ah_wI (wrT σ (96 + (o + km D) % 20)) 90 7 (nI ((o + 1) % 20))) (96 + (o + (i + 1)) % 20) j = ah_I (wrT σ (96 + (o + km D) % 20)) (96 + (o + (i + 1)) % 20) j := fun j => rI_ne (Or.inl (by omega))
      by_cases q1 : i = 19
      · subst q1
        have hx : 96 + (o + (19 + 1)) % 20 = 96 + (o + km D) % 20 := by omega
        rw [hx]
        rw [hx] at ef
        intro c hc
        have e : ∀ x, 255 ≤ x → x ≤ 258 → dKeep D x (7 * 19 + c) = D (x - 7) c := by
          intro x h1 h2
          unfold dKeep
          rw [if_neg (by omega), if_pos ⟨h1, h2⟩, if_pos q, if_pos (by omega), show 7 * 19 + c - 133 = c by omega]
        show _ = dKeep D 255 (7 * 19 + c) ∧ (dKeep D 255 (7 * 19 + c) ≠ mI 1 → _ = dKeep D 256 (7 * 19 + c) ∧ _ = dKeep D 257 (7 * 19 + c) ∧ _ = dKeep D 258 (7 * 19 + c))
        rw [e 255 (by omega) (by omega), e 256 (by omega) (by omega), e 257 (by omega) (by omega), e 258 (by omega) (by omega), ef, ef, ef, ef]
        exact hnew c hc
      · intro c hc
        have e : ∀ x, 255 ≤ x → x ≤ 258 → dKeep D x (7 * i + c) = D x (7 * (i + 1) + c) := by
          intro x h1 h2
          unfold dKeep
          rw [if_neg (by omega), if_pos ⟨h1, h2⟩, if_pos q, if_neg (by omega), if_pos (by omega), show 7 * i + c + 7 = 7 * (i + 1) + c by omega]
        show _ = dKeep D 255 (7 * i + c) ∧ (dKeep D 255 (7 * i + c) ≠ mI 1 → _ = dKeep D 256 (7 * i + c) ∧ _ = dKeep D 257 (7 * i + c) ∧ _ = dKeep D 258 (7 * i + c))
        rw [e 255 (by omega) (by omega), e 256 (by omega) (by omega), e 257 (by omega) (by omega), e 258 (by omega) (by omega), ef, ef, ef, ef]
        exact hold (i + 1) (by omega) (by omega) c hc
  · rw [if_neg (by rw [le_nI (by omega) (by omega)]; omega), bq_s, zadd, pI_90 hw2, bq_s]
    have fw2 := fw.wI (a := 90) (i := 4) (x := nI (km D + 1)) (by unfold Xm; omega)
    refine ⟨_, rfl, fw2, ?_, ⟨o, by omega, by rw [rI_ne (Or.inr (by omega))]; exact r7, fun i hi => ?_⟩, himg _ fw2⟩
    · rw [rI_eq]
      unfold dKeep
      rw [if_pos ⟨rfl, rfl⟩, if_neg q]
    · rw [hk, if_neg q] at hi
      have ef : ∀ j, ah_I (ah_wI (wrT σ (96 + (o + km D) % 20)) 90 4 (nI (km D + 1))) (96 + (o + i) % 20) j = ah_I (wrT σ (96 + (o + km D) % 20)) (96 + (o + i) % 20) j := fun j => rI_ne (Or.inl (by omega))
      by_cases q1 : i = km D
      · subst q1
        intro c hc
        have e : ∀ x, 255 ≤ x → x ≤ 258 → dKeep D x (7 * km D + c) = D (x - 7) c := by
          intro x h1 h2
          unfold dKeep
          rw [if_neg (by omega), if_pos ⟨h1, h2⟩, if_neg q, if_pos (by omega), show 7 * km D + c - 7 * km D = c by omega]
        show _ = dKeep D 255 (7 * km D + c) ∧ (dKeep D 255 (7 * km D + c) ≠ mI 1 → _ = dKeep D 256 (7 * km D + c) ∧ _ = dKeep D 257 (7 * km D + c) ∧ _ = dKeep D 258 (7 * km D + c))
        rw [e 255 (by omega) (by omega), e 256 (by omega) (by omega), e 257 (by omega) (by omega), e 258 (by omega) (by omega), ef, ef, ef, ef]
        exact hnew c hc
      · intro c hc
        have e : ∀ x, 255 ≤ x → x ≤ 258 → dKeep D x (7 * i + c) = D x (7 * i + c) := by
          intro x h1 h2
          unfold dKeep
          rw [if_neg (by omega), if_pos ⟨h1, h2⟩, if_neg q, if_neg (by omega)]
        show _ = dKeep D 255 (7 * i + c) ∧ (dKeep D 255 (7 * i + c) ≠ mI 1 → _ = dKeep D 256 (7 * i + c) ∧ _ = dKeep D 257 (7 * i + c) ∧ _ = dKeep D 258 (7 * i + c))
        rw [e 255 (by omega) (by omega), e 256 (by omega) (by omega), e 257 (by omega) (by omega), e 258 (by omega) (by omega), ef, ef, ef, ef]
        exact hold i (by omega) (by omega) c hc
theorem NetR.st (h : NetR σ D) (ht : MT D) (hn : MN D) {c : Nat} (hc : c < 7) : ah_I σ 91 c = sv (stD D c) := by
  rw [(h c hc).1]
  unfold stD
  rcases hn.1 c hc with q | ⟨-, -, ⟨s, hs, e, -⟩, -⟩
  · rw [if_pos q, q]; rfl
  · have h10 := ht.qs10
    rw [if_neg (by rw [e, neg_nI (by omega) (by omega) (by omega)]; exact fun q => q), e, ix_nI (by omega)]
    rfl
theorem stD_b (ht : MT D) (hn : MN D) {c s : Nat} (hc : c < 7) (hx : stD D c = some s) : s < nS D := (hn.laid ht hc hx).2.2.1
theorem NetR.sn (h : NetR σ D) (ht : MT D) (hn : MN D) {c : Nat} (hc : c < 7) : (ah_I σ 91 c = mI 1) = (stD D c = none) := by
  have := ht.qs10
  rw [h.st ht hn hc]
  exact sv_none _ (fun k hk => Nat.lt_trans (stD_b ht hn hc hk) (by omega))
theorem c_pl4 (hw : Wf σ) (h : NetR σ D) (ht : MT D) (hn : MN D) : ∀ m k fu, k + m = 7 → m < fu → f_X5_pipesLaid_4 fu 90 (nI (cnt (stD D) k)) (nI k) σ = some (nI (cnt (stD D) 7), σ) := by
  intro m
  induction m with
  | zero =>
    intro k fu hk hf
    obtain ⟨fu, rfl⟩ : ∃ q, fu = q + 1 := ⟨fu - 1, by omega⟩
    obtain rfl : k = 7 := by omega
    show f_X5_pipesLaid_4_b _ _ _ _ _ = _
    unfold f_X5_pipesLaid_4_b
    simp only [to_bq, l_0, l_1, l_2, l_3, l_4, l_5, l_6, l_7, l_8, l_9, l_10, l_11, l_12, l_13, l_14, l_15, l_16, l_17, l_18, l_19, l_20, l_21, l_22, l_23, l_24, l_25, l_26, l_27, l_28, l_29, l_30, l_31, l_32, l_40, l_41, l_42, l_43, l_44, l_45, l_46, l_47, l_48, l_49, l_50, l_51, l_52, l_53, l_54, l_55, l_56, l_57, l_58, l_59, l_60, l_61, l_62, l_63, l_64, l_72, l_97, l_99, l_100, l_104, l_120, l_122, l_128, l_140, l_255, l_256, l_257, l_258, l_260, l_261, l_262, l_364, l_680, l_700, l_701, l_840, l_999, l_1023, l_1024, l_9999, l_10000, l_1000000, lm]
    simp (disch := first | (with_reducible assumption) | omega | exact ⟨by omega, by omega⟩ | ((with_reducible first | apply Wf.wI | apply Wf.wL | apply Wf.fL | apply Wf.fI | apply Wf.fr); (repeat (with_reducible first | assumption | apply Wf.wI | apply Wf.wL | apply Wf.fL | apply Wf.fI | apply Wf.fr)))) only [zadd, zmul, zsub, le_nI, lt_nI, eq_nI, neg_nI, gen_nI, neg_lt, neg_le, neg_lt', neg_le', nI_lt0, if_true, if_false, ite_true, ite_false, reduceIte, not_true, not_false, and_true, true_and, and_false, false_and, or_true, true_or, or_false, false_or, eq_self, Nat.le_refl]
  | succ m ih =>
    intro k fu hk hf
    obtain ⟨fu, rfl⟩ : ∃ q, fu = q + 1 := ⟨fu - 1, by omega⟩
    have hi := ih (k + 1) fu (by omega) (by omega)
    show f_X5_pipesLaid_4_b _ _ _ _ _ = _
    unfold f_X5_pipesLaid_4_b f_X5_pipesLaid_23
    simp only [to_bq, l_0, l_1, l_2, l_3, l_4, l_5, l_6, l_7, l_8, l_9, l_10, l_11, l_12, l_13, l_14, l_15, l_16, l_17, l_18, l_19, l_20, l_21, l_22, l_23, l_24, l_25, l_26, l_27, l_28, l_29, l_30, l_31, l_32, l_40, l_41, l_42, l_43, l_44, l_45, l_46, l_47, l_48, l_49, l_50, l_51, l_52, l_53, l_54, l_55, l_56, l_57, l_58, l_59, l_60, l_61, l_62, l_63, l_64, l_72, l_97, l_99, l_100, l_104, l_120, l_122, l_128, l_140, l_255, l_256, l_257, l_258, l_260, l_261, l_262, l_364, l_680, l_700, l_701, l_840, l_999, l_1023, l_1024, l_9999, l_10000, l_1000000, lm]
    simp (disch := first | (with_reducible assumption) | omega | exact ⟨by omega, by omega⟩ | ((with_reducible first | apply Wf.wI | apply Wf.wL | apply Wf.fL | apply Wf.fI | apply Wf.fr); (repeat (with_reducible first | assumption | apply Wf.wI | apply Wf.wL | apply Wf.fL | apply Wf.fI | apply Wf.fr)))) only [ck_90, gI_90, gL_90, pI_90, pZ0_90, pZ1_90, pL_90, gR_90_0, gR_90_1, gR_90_2, gR_90_3, gR_90_6, gR_90_8, aI_91, bq_s, bd_s, mp_s, rz_0, rz_1, bI_rz, zadd, zmul, zsub, le_nI, lt_nI, eq_nI, neg_nI, gen_nI, neg_lt, neg_le, neg_lt', neg_le', nI_lt0, if_true, if_false, ite_true, ite_false, reduceIte, not_true, not_false, and_true, true_and, and_false, false_and, or_true, true_or, or_false, false_or, eq_self, lm, h.sn ht hn (show k < 7 by omega), show (7 ≤ k) = False from eq_false (by omega)]
    rw [← hi, show cnt (stD D) (k + 1) = cnt (stD D) k + if stD D k = none then 0 else 1 from rfl]
    by_cases q : stD D k = none
    · rw [if_pos q, if_pos q]; rfl
    · rw [if_neg q, if_neg q]
theorem cnt_out (ht : MT D) (hn : MN D) : ∀ k, nC D ≤ k → k ≤ 7 → cnt (stD D) k = cnt (stD D) (nC D) := by
  intro k
  induction k with
  | zero => intro h _; rw [show nC D = 0 by omega]
  | succ k ih =>
    intro h1 h2
    by_cases q : nC D = k + 1
    · rw [q]
    · rw [show cnt (stD D) (k + 1) = cnt (stD D) k + if stD D k = none then 0 else 1 from rfl, if_pos (stD_out ht hn (by omega) (by omega)), ih (by omega) (by omega)]; rfl
theorem c_pipesLaid (hw : Wf σ) (h : NetR σ D) (ht : MT D) (hn : MN D) : f_X5_pipesLaid 90 σ = some (nI (cnt (stD D) (nC D)), σ) := by
  unfold f_X5_pipesLaid f_X5_pipesLaid_0
  rw [ck_90 hw, l_0, ← cnt_out ht hn 7 ht.qc7 (by omega)]
  exact c_pl4 hw h ht hn 7 0 5000 (by omega) (by omega)
end
