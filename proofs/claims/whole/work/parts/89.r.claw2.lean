/-! LINES OF THE CLASS: law -/
section
variable {σ τ : ah_H} {T : Nat → Nat} {n N i t : Nat} {E E' : DD} {td : Nat} {o : List (Nat × Nat)}
def Xcw (t a j : Nat) : Prop := Xlw t a j ∨ Xrn a j
theorem c_told2 (hT : TR σ t E) {q : Nat} (hq : q < 3) : f_X4_isTold (t + 33) (nI q) σ = some (cI (lfr E q < lto E q), σ) := by
  have hW := hT.2.1
  have htn := hT.1
  obtain ⟨e1, e2⟩ := hT.2.2.2.2.2.2.2.2.1 q hq
  have hL := hT.2.2.1.2.2.2.2.2.2 q hq
  have l1 : lfr E q ≤ 64 := hL.1.2
  have l2 : lto E q ≤ 64 := hL.2.1.2
  unfold f_X4_isTold f_X4_isTold_0
  simp only [to_bq, l_0, l_1, l_2, l_3, l_4, l_5, l_6, l_7, l_8, l_9, l_10, l_11, l_12, l_13, l_14, l_15, l_16, l_17, l_18, l_19, l_20, l_21, l_22, l_23, l_24, l_25, l_26, l_27, l_28, l_29, l_30, l_31, l_32, l_40, l_41, l_42, l_43, l_44, l_45, l_46, l_47, l_48, l_49, l_50, l_51, l_52, l_53, l_54, l_55, l_56, l_57, l_58, l_59, l_60, l_61, l_62, l_63, l_64, l_72, l_97, l_99, l_100, l_104, l_120, l_122, l_128, l_140, l_255, l_256, l_257, l_258, l_260, l_261, l_262, l_364, l_680, l_700, l_701, l_840, l_999, l_1023, l_1024, l_9999, l_10000, l_1000000, lm]
  simp (disch := first | (with_reducible assumption) | omega | exact ⟨by omega, by omega⟩ | ((with_reducible first | apply Wf.wI | apply Wf.wL | apply Wf.fL | apply Wf.fI | apply Wf.fr); (repeat (with_reducible first | assumption | apply Wf.wI | apply Wf.wL | apply Wf.fL | apply Wf.fI | apply Wf.fr)))) only [ck_t, gI_t, gL_t, pI_t, pZ0_t, pZ1_t, pL_t, ck_w, gI_w, gL_w, pI_w, pZ0_w, pZ1_w, pL_w, gR_t_1, gR_t_5, gR_t_7, gR_t_9, gR_t_10, gR_t_11, gR_t_12, gR_t_15, gR_w_2, gR_w_3, gR_w_4, gR_w_5, gR_w_6, gR_w_7, aR_crow, aR_srow, aR_prow, aR_rrow, aI_crow, sI_crow, len_crow, aI_srow, sI_srow, len_srow, aI_prow, sI_prow, len_prow, aI_rrow, sI_rrow, len_rrow, aI_t25, sI_t25, len_t25, aI_t31, sI_t31, len_t31, aI_t32, sI_t32, len_t32, aI_t34, sI_t34, len_t34, aI_t35, sI_t35, len_t35, aI_t36, sI_t36, len_t36, aI_t37, sI_t37, len_t37, aL_t38, sL_t38, len_t38, aL_t39, sL_t39, len_t39, bq_n, bd_s, mp_s, rz_0, rz_1, bI_rz, e1, e2]
  by_cases z : lfr E q < lto E q
  · rw [if_neg (by rw [le_nI (by omega) (by omega)]; omega), cI_t z]
  · rw [if_pos (by rw [le_nI (by omega) (by omega)]; omega), cI_f z]
theorem TR_law (h : TR σ t E) (hW : Wf τ) {q : Nat} (hq : q < 3) {o o' : List (Nat × Nat)} (hM : MT (eLaw E q o o')) (hl : o'.length ≤ 64) (e : ∀ a j, Tdm E t a j → a < t + 33 → ah_I τ a j = ah_I σ a j) (e0 : ah_I τ (t + 33) 0 = nI o'.length) (f0 : ah_I τ (t + 36) q = nI o.length) (f1 : ah_I τ (t + 37) q = nI o'.length) (f2 : ∀ k, k ≠ q → ah_I τ (t + 36) k = ah_I σ (t + 36) k ∧ ah_I τ (t + 37) k = ah_I σ (t + 37) k) (f3 : ∀ j, j < o'.length → knC (nI (o'.getD j (0, 0)).1) (nI (o'.getD j (0, 0)).2) (ah_I τ (t + 34) j) (ah_I τ (t + 35) j)) (hol : o.length ≤ 64) : TR τ t (eLaw E q o o') := by
  obtain ⟨ht, hw', hM0, hF, hRw⟩ := h
  have b0 : nC E ≤ 7 := hM0.1.1.2
  have b1 : nS E ≤ 10 := hM0.1.2.1.2
  have b2 : nP E ≤ 4 := hM0.1.2.2.1.2
  have b3 : nR E ≤ 4 := hM0.1.2.2.2.1.2
  have eR : ∀ x, 228 ≤ x → x ≤ 241 → eLaw E q o o' x = E x := fun x h1 h2 => funext fun j => by
    unfold eLaw; rw [if_neg (by omega), if_neg (by omega), if_neg (by omega), if_neg (by omega), if_neg (by omega)]
  have e7 : ∀ j, j ≠ 11 → eLaw E q o o' 227 j = E 227 j := fun j h => by
    unfold eLaw; rw [if_neg (by omega), if_neg (by omega), if_neg (by omega), if_neg (by omega), if_neg (by omega)]
  have e11 : eLaw E q o o' 227 11 = nI o'.length := if_pos ⟨rfl, rfl⟩
  obtain ⟨n1, n2, n3, n4, -⟩ := nums_o (k := 11) (by omega) e7
  have n2 := n2 (by omega)
  have n3 := n3 (by omega)
  have n4 := n4 (by omega)
  have nK' : nK (eLaw E q o o') = o'.length := by unfold nK; rw [e11]; exact ix_nI (by omega)
  obtain ⟨t1, t2, t3, t4, t5, t6, t7, t8, t9, t10, t11, t12⟩ := hF
  refine ⟨ht, hW, hM, ?_, ?_⟩
  · unfold TF lf mf lc mc ct
    rw [n1, n2, n3, n4, nK', e7 4 (by omega), e7 5 (by omega), e7 6 (by omega), e7 7 (by omega), e7 8 (by omega), e7 9 (by omega), e7 10 (by omega)]
    rw [e t 0 (by unfold Tdm; omega) (by omega), e t 2 (by unfold Tdm; omega) (by omega), e t 3 (by unfold Tdm; omega) (by omega), e t 4 (by unfold Tdm; omega) (by omega), e t 6 (by unfold Tdm; omega) (by omega), e t 8 (by unfold Tdm; omega) (by omega), e t 13 (by unfold Tdm; omega) (by omega), e (t+31) 0 (by unfold Tdm; omega) (by omega), e (t+31) 1 (by unfold Tdm; omega) (by omega), e (t+32) 0 (by unfold Tdm; omega) (by omega), e (t+32) 1 (by unfold Tdm; omega) (by omega)]
    exact ⟨t1, t2, t3, t4, t5, t6, t7, t8, t9, t10, t11, e0⟩
  · obtain ⟨h1, h2, h3, h4, h5, h6⟩ := hRw
    unfold TRows
    rw [n1, n2, n3, n4, nK']
    refine ⟨fun c hc => ?_, fun s hs => ?_, fun p hp => ?_, fun r hr => ?_, fun k hk => ?_, fun j hj => ?_⟩
    · have := h1 c hc
      unfold hgt are rck at *
      rw [eR 229 (by omega) (by omega), eR 230 (by omega) (by omega), eR 231 (by omega) (by omega), eR 228 (by omega) (by omega), e _ 0 (by unfold Tdm; omega) (by omega), e _ 1 (by unfold Tdm; omega) (by omega), e _ 2 (by unfold Tdm; omega) (by omega), e _ 3 (by unfold Tdm; omega) (by omega)]
      exact this
    · have := h2 s hs
      unfold sA sB len hrs rsk at *
      rw [eR 232 (by omega) (by omega), eR 233 (by omega) (by omega), eR 234 (by omega) (by omega), eR 235 (by omega) (by omega), eR 236 (by omega) (by omega), e _ 0 (by unfold Tdm; omega) (by omega), e _ 1 (by unfold Tdm; omega) (by omega), e _ 2 (by unfold Tdm; omega) (by omega), e _ 3 (by unfold Tdm; omega) (by omega), e _ 4 (by unfold Tdm; omega) (by omega)]
      exact this
    · have := h3 p hp
      unfold wid pri at *
      rw [eR 237 (by omega) (by omega), eR 238 (by omega) (by omega), e _ 0 (by unfold Tdm; omega) (by omega), e _ 1 (by unfold Tdm; omega) (by omega)]
      exact this
    · have := h4 r hr
      unfold rnh rnv at *
      rw [eR 239 (by omega) (by omega), eR 240 (by omega) (by omega), eR 241 (by omega) (by omega), e _ r (by unfold Tdm; omega) (by omega)]
      refine ⟨this.1, fun h hh => ?_⟩
      rw [e _ h (by unfold Tdm; omega) (by omega)]
      exact this.2 h hh
    · unfold lfr lto
      by_cases z : k = q
      · subst z
        have x2 : eLaw E k o o' 242 k = nI o.length := by unfold eLaw; rw [if_neg (by omega), if_pos ⟨rfl, rfl⟩]
        have x3 : eLaw E k o o' 243 k = nI o'.length := by unfold eLaw; rw [if_neg (by omega), if_neg (by omega), if_pos ⟨rfl, rfl⟩]
        rw [x2, x3, ix_nI (by omega), ix_nI (by omega)]
        exact ⟨f0, f1⟩
      · have x2 : eLaw E q o o' 242 k = E 242 k := by unfold eLaw; rw [if_neg (by omega), if_neg (by omega), if_neg (by omega), if_neg (by omega), if_neg (by omega)]
        have x3 : eLaw E q o o' 243 k = E 243 k := by unfold eLaw; rw [if_neg (by omega), if_neg (by omega), if_neg (by omega), if_neg (by omega), if_neg (by omega)]
        rw [x2, x3, (f2 k z).1, (f2 k z).2]
        exact h5 k hk
    · have x4 : eLaw E q o o' 244 j = nI (o'.getD j (0, 0)).1 := by unfold eLaw; rw [if_neg (by omega), if_neg (by omega), if_neg (by omega), if_pos ⟨rfl, hj⟩]
      have x5 : eLaw E q o o' 245 j = nI (o'.getD j (0, 0)).2 := by unfold eLaw; rw [if_neg (by omega), if_neg (by omega), if_neg (by omega), if_neg (by omega), if_pos ⟨rfl, hj⟩]
      rw [x4, x5]
      exact f3 j hj
/-- the class went as sLaw says -/
theorem c_lawL (h : CAt σ T n N i) (hv : ∀ i, TVb (tks T n i)) (hT : TR σ t E) (hr : ah_R σ 82 2 = some t) (h4 : tS (tks T n i) ≠ 4) (hK : KnC σ t o) (hb : ∀ q, q < 3 → (td.testBit (16 + q) = true ↔ ix (E 242 q) < ix (E 243 q))) (hM : ∀ r, sLaw (tks T n) (i + 1) E td o = .inr r → MT r.2.1) : ∃ τ, Fr (Xcw t) σ τ ∧ ((∃ f j, sLaw (tks T n) (i + 1) E td o = .inl (f, j) ∧ f_X7_readLaw 82 σ = some (nI 0, τ) ∧ CFl τ T n f j) ∨ (∃ i' E' td' o', sLaw (tks T n) (i + 1) E td o = .inr (i', E', td', o') ∧ f_X7_readLaw 82 σ = some (nI 1, τ) ∧ CAt τ T n N i' ∧ TR τ t E' ∧ KnC τ t o' ∧ tS (tks T n i') = 3 ∧ tV (tks T n i') = 59)) := by
  have hW := h.w
  have htn := hT.1
  have hTt : t = 2 ∨ t = 42 := htn
  obtain ⟨σ1, w1, w2, w3⟩ := c_step h h4
  have g1 : Fr (Xcw t) σ σ1 := w2.mono (fun a j z => Or.inr (Xs8_r a j z))
  have T1 := hT.rn (w2.mono Xs8_r)
  have r1 : ah_R σ1 82 2 = some t := (w2.R (Or.inr (by unfold Xs8; omega))).trans hr
  have W1 := w3.w
  have hk := w3.2.2.2.2.1
  have hK1 : KnC σ1 t o := ⟨hK.1, (w2.I (by unfold Xs8; omega)).trans hK.2.1, (w2.I (by unfold Xs8; omega)).trans hK.2.2.1, fun j hj => by rw [w2.I (by unfold Xs8; omega), w2.I (by unfold Xs8; omega)]; exact hK.2.2.2 j hj⟩
  have bad : ¬ (tS (tks T n (i + 1)) = 0 ∧ 12 ≤ tV (tks T n (i + 1)) ∧ tV (tks T n (i + 1)) ≤ 14) → ∃ τ, Fr (Xcw t) σ τ ∧ (∃ f j, sLaw (tks T n) (i + 1) E td o = .inl (f, j) ∧ f_X7_readLaw_42 82 σ1 = some (nI 0, τ) ∧ CFl τ T n f j) := by
    intro z
    obtain ⟨τ, u1, u2, u3⟩ := c_fail w3 (f := 1)
    refine ⟨τ, g1.trans (u2.mono (fun a j z => Or.inr z)), 1, i + 1, if_neg z, ?_, u3⟩
    unfold f_X7_readLaw_42
    rw [show f_X7_fail 82 (1 : Int32) σ1 = some (nI 0, τ) from u1, bd_s]
    show (op_rz (nI 0)).map _ = _
    rw [rz_0]; rfl
  unfold f_X7_readLaw f_X7_readLaw_0
  rw [ck_82 hW, gR_82_0 hW, bd_s, w1, bd_s, gR_82_0 W1, bd_s, gI_83 W1, bd_s]
  by_cases z0 : tS (tks T n (i + 1)) = 0
  · have hvb := (hv (i + 1)).1 z0
    have hval : ah_I σ1 83 9 = nI (ckw (tV (tks T n (i + 1)))) := hk.vkey z0
    have hcb : ckw (tV (tks T n (i + 1))) < 100 := by unfold ckw; split <;> (try split) <;> omega
    have hcw : (12 ≤ ckw (tV (tks T n (i + 1))) ∧ ckw (tV (tks T n (i + 1))) ≤ 14) ↔ (12 ≤ tV (tks T n (i + 1)) ∧ tV (tks T n (i + 1)) ≤ 14) := by
      unfold ckw; split
      · exact Iff.rfl
      · split <;> omega
    rw [if_pos (show ah_I σ1 83 8 = (2 : Int32) from hk.key.mpr z0), bd_s, gI_83 W1, hval, bd_s]
    by_cases z1 : 12 ≤ tV (tks T n (i + 1)) ∧ tV (tks T n (i + 1)) ≤ 14
    · have hce : ckw (tV (tks T n (i + 1))) = tV (tks T n (i + 1)) := by unfold ckw; rw [if_pos (by omega)]
      obtain ⟨q, hq⟩ : ∃ q, q = tV (tks T n (i + 1)) - 12 := ⟨_, rfl⟩
      have hq3 : q < 3 := by omega
      have eL : sLaw (tks T n) (i + 1) E td o = (if td.testBit (16 + q) = true then .inl (3, i + 1) else
      match mres (tks T n) (i + 1 + 1, o, [], 0, o.length, true) with
      | .inl x => .inl x
      | .inr e => .inr (e.1, eLaw E q o e.2.1, td ||| 2 ^ (16 + q), e.2.1)) := by
          unfold sLaw; rw [if_pos ⟨z0, z1⟩, ← hq] <;> rfl
      rw [hce, if_neg (show ¬ nI (tV (tks T n (i + 1))) < (12 : Int32) from (show ¬ nI (tV (tks T n (i + 1))) < nI 12 by rw [lt_nI (by omega) (by omega)]; omega)), bd_s, gI_83 W1, hval, hce, bd_s, if_pos (show nI (tV (tks T n (i + 1))) ≤ (14 : Int32) from (show nI (tV (tks T n (i + 1))) ≤ nI 14 by rw [le_nI (by omega) (by omega)]; omega)), bd_s, gI_83 W1, hval, hce, bd_s, gR_82_2 W1, r1, bd_s, gR_t_15 W1 htn, bd_s, show nI (tV (tks T n (i + 1))) - (12 : Int32) = nI q from (show nI (tV (tks T n (i + 1))) - nI 12 = nI q by rw [zsub (by omega), hq]), c_told2 T1 hq3, bd_s]
      by_cases y : td.testBit (16 + q) = true
      · have y' : lfr E q < lto E q := (hb q hq3).mp y
        obtain ⟨τ, u1, u2, u3⟩ := c_fail w3 (f := 3)
        rw [if_neg (show ¬ cI (lfr E q < lto E q) = (0 : Int32) by rw [cI_t y']; decide), show f_X7_fail 82 (3 : Int32) σ1 = some (nI 0, τ) from u1, bd_s]
        refine ⟨τ, g1.trans (u2.mono (fun a j z => Or.inr z)), Or.inl ⟨3, i + 1, by rw [eL, if_pos y], ?_, u3⟩⟩
        show (op_rz (nI 0)).map _ = _
        rw [rz_0]; rfl
      · have y' : ¬ lfr E q < lto E q := fun w => y ((hb q hq3).mpr w)
        rw [if_neg y] at eL
        obtain ⟨σ2, v1, v2, v3⟩ := c_step w3 (by omega)
        have W2 := v3.w
        have g2 := g1.trans (v2.mono (fun a j z => Or.inr (Xs8_r a j z)))
        have r2 : ah_R σ2 82 2 = some t := (v2.R (Or.inr (by unfold Xs8; omega))).trans r1
        have T2 := T1.rn (v2.mono Xs8_r)
        have hK2 : KnC σ2 t o := ⟨hK1.1, (v2.I (by unfold Xs8; omega)).trans hK1.2.1, (v2.I (by unfold Xs8; omega)).trans hK1.2.2.1, fun j hj => by rw [v2.I (by unfold Xs8; omega), v2.I (by unfold Xs8; omega)]; exact hK1.2.2.2 j hj⟩
        obtain ⟨τ, x1, x2, x3, x4⟩ := c_readLaw hq3 hv v3 htn hK2
        have g3 := g2.trans (x1.mono (fun a j z => Or.inl z))
        rw [if_pos (show cI (lfr E q < lto E q) = (0 : Int32) from cI_f y'), gR_82_0 W1, bd_s, v1, bd_s, gR_82_1 W2, bd_s, gR_82_2 W2, r2, bd_s, gR_t_15 W2 htn, bd_s]
        rcases x2 with ⟨f, j, c1, c2, c3, c4, c5⟩ | ⟨i', o', S', c', c1, c2, c3, c4, c5⟩
        · obtain ⟨υ, u1, u2, u3⟩ := c_fail c5 (f := f)
          rw [c2, bd_s, if_neg (show ¬ nI f = (0 : Int32) by rw [l_0, eq_nI (by omega) (by omega)]; omega), u1, bd_s, if_pos (show nI 0 = (0 : Int32) from rfl), l_0, rz_0]
          exact ⟨υ, g3.trans (u2.mono (fun a j z => Or.inr z)), Or.inl ⟨f, j, by rw [eL, mres_f c1], rfl, u3⟩⟩
        · have hc := men_c (m := (i + 1 + 1, o, [], 0, o.length, true)) ⟨rfl, rfl, fun x hx => by cases hx⟩ c1
          have hc : c' = o'.length := hc
          have hsm := men_semi c1
          obtain ⟨k1, k2, k3, k4, k5, k6, k7, k8, k9, k10, -⟩ := c4
          rw [mres_n c1] at eL
          have hM' := hM _ eL
          rw [c2, bd_s, if_pos (show nI 0 = (0 : Int32) from rfl), l_1, rz_1]
          refine ⟨τ, g3, Or.inr ⟨i', eLaw E q o o', td ||| 2 ^ (16 + q), o', eL, rfl, c3, ?_, ⟨by omega, by rw [k7, hc], k8, k9⟩, hsm⟩⟩
          refine TR_law T2 k1 hq3 hM' (by omega) (fun a j z1 z2 => ?_) (by rw [k7, hc]) x3 c5 (fun k hk => x4 k hk) k9 hK.1
          have b0 : nC E ≤ 7 := hT.2.2.1.1.1.2
          have b1 : nS E ≤ 10 := hT.2.2.1.1.2.1.2
          have b2 : nP E ≤ 4 := hT.2.2.1.1.2.2.1.2
          have b3 : nR E ≤ 4 := hT.2.2.1.1.2.2.2.1.2
          exact x1.I (by unfold Xlw Xfm Xs8; unfold Tdm at z1; omega)
    · by_cases z2 : ckw (tV (tks T n (i + 1))) < 12
      · rw [if_pos (show nI (ckw (tV (tks T n (i + 1)))) < (12 : Int32) from (show nI (ckw (tV (tks T n (i + 1)))) < nI 12 by rw [lt_nI (by omega) (by omega)]; exact z2))]
        obtain ⟨τ, t1, t2⟩ := bad (fun w => z1 w.2)
        exact ⟨τ, t1, Or.inl t2⟩
      · rw [if_neg (show ¬ nI (ckw (tV (tks T n (i + 1)))) < (12 : Int32) from (show ¬ nI (ckw (tV (tks T n (i + 1)))) < nI 12 by rw [lt_nI (by omega) (by omega)]; exact z2)), bd_s, gI_83 W1, hval, bd_s, if_neg (show ¬ nI (ckw (tV (tks T n (i + 1)))) ≤ (14 : Int32) from (show ¬ nI (ckw (tV (tks T n (i + 1)))) ≤ nI 14 by rw [le_nI (by omega) (by omega)]; omega))]
        obtain ⟨τ, t1, t2⟩ := bad (fun w => z1 w.2)
        exact ⟨τ, t1, Or.inl t2⟩
  · rw [if_neg (show ¬ ah_I σ1 83 8 = (2 : Int32) from fun w => z0 (hk.key.mp w))]
    obtain ⟨τ, t1, t2⟩ := bad (fun w => z0 w.1)
    exact ⟨τ, t1, Or.inl t2⟩
end
