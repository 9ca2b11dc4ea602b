/-! LINES OF THE CLASS: street, all of it -/
section
variable {σ τ : ah_H} {T : Nat → Nat} {n N i t : Nat} {s : LnS} {E E' : DD}
theorem TR_str (h : TR σ t E) (hW : Wf τ) (h10 : nS E < 10) {a b l x r : Nat} (ha : a < nC E) (hb : b < nC E) (hab : a ≠ b) (hl1 : 1 ≤ l) (hl : l ≤ 99) (hx : x ≤ 3) (hr : r ≤ 99) (e : ∀ a j, Tdm E t a j → ¬ (a = t ∧ j = 4) → ah_I τ a j = ah_I σ a j) (e0 : ah_I τ t 4 = nI (nS E + 1)) (f0 : ah_I τ (t + 10 + nS E) 0 = nI a) (f1 : ah_I τ (t + 10 + nS E) 1 = nI b) (f2 : ah_I τ (t + 10 + nS E) 2 = nI l) (f3 : ah_I τ (t + 10 + nS E) 3 = nI x) (f4 : ah_I τ (t + 10 + nS E) 4 = nI r) : TR τ t (eStr E a b l x r) := by
  obtain ⟨ht, hw', hM, hF, hRw⟩ := h
  have b0 : nC E ≤ 7 := hM.1.1.2
  obtain ⟨r1, r2, r3, r4, r5, r6, r7, r8, r9, r10⟩ := eStr_r (E := E) (a := a) (b := b) (l := l) (h := x) (r := r)
  obtain ⟨n1, -, n2, n3, n4⟩ := nums_o (k := 1) (by omega) r3
  have n2 := n2 (by omega)
  have n3 := n3 (by omega)
  have n4 := n4 (by omega)
  have nS' : nS (eStr E a b l x r) = nS E + 1 := by unfold nS; rw [r4]; exact ix_nI (by omega)
  have hRw2 := hRw.dm (τ := τ) (fun a j z y => e a j z (by omega))
  obtain ⟨t1, t2, t3, t4, t5, t6, t7, t8, t9, t10, t11, t12⟩ := hF
  refine ⟨ht, hW, MT_str hM h10 ha hb hab hl1 hl hx hr, ?_, ?_⟩
  · unfold TF lf mf lc mc ct
    rw [n1, n2, nS', n3, n4, r3 4 (by omega), r3 5 (by omega), r3 6 (by omega), r3 7 (by omega), r3 8 (by omega), r3 9 (by omega), r3 10 (by omega)]
    rw [e t 0 (by unfold Tdm; omega) (by omega), e t 2 (by unfold Tdm; omega) (by omega), e t 3 (by unfold Tdm; omega) (by omega), e t 6 (by unfold Tdm; omega) (by omega), e t 8 (by unfold Tdm; omega) (by omega), e t 13 (by unfold Tdm; omega) (by omega), e (t+31) 0 (by unfold Tdm; omega) (by omega), e (t+31) 1 (by unfold Tdm; omega) (by omega), e (t+32) 0 (by unfold Tdm; omega) (by omega), e (t+32) 1 (by unfold Tdm; omega) (by omega), e (t+33) 0 (by unfold Tdm; omega) (by omega)]
    exact ⟨t1, t2, t3, e0, t5, t6, t7, t8, t9, t10, t11, t12⟩
  · obtain ⟨h1, h2, h3, h4, h5, h6⟩ := hRw2
    unfold TRows
    rw [n1, n2, nS', n3, n4]
    refine ⟨fun c hc => ?_, fun s hs => ?_, fun p hp => ?_, fun q hq => ?_, fun k hk => ?_, fun i hi => ?_⟩
    · have := h1 c hc
      unfold hgt are rck at *
      rw [r2 229 (by omega) (by omega), r2 230 (by omega) (by omega), r2 231 (by omega) (by omega), r2 228 (by omega) (by omega)]
      exact this
    · by_cases z : s = nS E
      · subst z
        unfold sA sB len hrs rsk
        rw [r6, r7, r8, r9, r10, ix_nI (by omega), ix_nI (by omega), ix_nI (by omega), ix_nI (by omega), ix_nI (by omega)]
        exact ⟨f0, f1, f2, f3, f4⟩
      · have := h2 s (by omega)
        unfold sA sB len hrs rsk at *
        rw [r5 _ _ z (by omega), r5 _ _ z (by omega), r5 _ _ z (by omega), r5 _ _ z (by omega), r5 _ _ z (by omega)]
        exact this
    · have := h3 p hp
      unfold wid pri at *
      rw [r1 237 (by omega), r1 238 (by omega)]
      exact this
    · have := h4 q hq
      unfold rnh rnv at *
      rw [r1 239 (by omega), r1 240 (by omega), r1 241 (by omega)]
      exact this
    · have := h5 k hk
      unfold lfr lto at *
      rw [r1 242 (by omega), r1 243 (by omega)]
      exact this
    · rw [r1 244 (by omega), r1 245 (by omega)]
      exact h6 i hi
theorem c_strL (h : CAt σ T n N i) (hv : ∀ i, TVb (tks T n i)) (hT : TR σ t E) (hr : ah_R σ 82 2 = some t) (h4 : tS (tks T n i) ≠ 4) (h10 : nS E < 10) : ∃ τ, Fr (Xcl t) σ τ ∧ CYo (f_X7_readStreet 82 σ) τ T n N (bStr (tks T n) E (i + 1, none)).1 ∧ ((bStr (tks T n) E (i + 1, none)).1.2 = none → TR τ t (bStr (tks T n) E (i + 1, none)).2) := by
  have hW := h.w
  have htn := hT.1
  have hTt : t = 2 ∨ t = 42 := htn
  have b0 : nC E ≤ 7 := hT.2.2.1.1.1.2
  have b2 : nP E ≤ 4 := hT.2.2.1.1.2.2.1.2
  have b3 : nR E ≤ 4 := hT.2.2.1.1.2.2.2.1.2
  have hC0 : ah_I σ t 4 = nI (nS E) := hT.2.2.2.1.2.2.2.1
  obtain ⟨σ1, w1, w2, w3⟩ := c_step h h4
  have g1 : Fr (Xcl t) σ σ1 := w2.mono (fun a j z => Or.inl (Xs8_r a j z))
  have T1 := hT.rn (w2.mono Xs8_r)
  have r1 : ah_R σ1 82 2 = some t := (w2.R (Or.inr (by unfold Xs8; omega))).trans hr
  have W1 := w3.w
  have hC1 : ah_I σ1 t 4 = nI (nS E) := T1.2.2.2.1.2.2.2.1
  obtain ⟨σ2, a1, a2⟩ := c_corN w3 T1 r1
  have r2 : ah_R σ2 82 2 = some t := (a1.R (Or.inr (by unfold Xrn; omega))).trans r1
  have g2 : Fr (Xcl t) σ σ2 := g1.trans (a1.mono (fun a j z => Or.inl z))
  have T2 := T1.rn a1
  have hcv := fun z => (sCor_v (k := tks T n) (s := (i + 1, none)) (g := E 228) b0 z).1
  have hgo := fun z => sGo_n (s := sCorS (tks T n) (i + 1, none) (E 228) (nC E)) z
  have head : f_X7_readStreet 82 σ = (f_X7_readCornerName 82 σ1).bind fun r10 => (op_sI r10.2 (t + 10 + nS E) (nI 0) r10.1).bind fun σ11 => (op_aI σ11 (t + 10 + nS E) (nI 0)).bind fun v12 => if v12 = mI 1 then (f_X7_readStreet_106 82 σ11) else ((f_X7_readOtherEnd 82 (t + 10 + nS E) σ11).bind fun r13 => if r13.1 = nI 0 then (f_X7_readStreet_106 82 r13.2) else ((f_X7_readInto 82 (t + 10 + nS E) (nI 2) (nI 1) (nI 99) r13.2).bind fun r14 => if r14.1 = nI 0 then (f_X7_readStreet_106 82 r14.2) else ((f_X7_readOption 82 (nI 10) (t + 10 + nS E) (nI 3) (nI 3) (nI 0) r14.2).bind fun r15 => if r15.1 = nI 0 then (f_X7_readStreet_106 82 r15.2) else ((f_X7_readOption 82 (nI 11) (t + 10 + nS E) (nI 4) (nI 99) (nI 1) r15.2).bind fun r16 => if r16.1 = nI 0 then (f_X7_readStreet_106 82 r16.2) else (f_X7_readStreet_107 82 (nI 1) r16.2))))) := by
    unfold f_X7_readStreet f_X7_readStreet_0
    rw [ck_82 hW, gR_82_2 hW, hr, bd_s, gI_t hW htn, hC0, bd_s, if_pos (show nI (nS E) < (10 : Int32) from (show nI (nS E) < nI 10 by rw [lt_nI (by omega) (by omega)]; exact h10)), gR_82_0 hW, bd_s, w1, bd_s, gR_82_2 W1, r1, bd_s, gR_t_5 W1 htn, bd_s, bd_s, gI_t W1 htn, hC1, bd_s, aR_srow W1 htn h10, bd_s]
    rfl
  have no : ∀ υ, f_X7_readStreet_106 82 υ = some (nI 0, υ) := fun υ => by
    unfold f_X7_readStreet_106 f_X7_readStreet_107
    simp only [to_bq, l_0, l_1, l_2, l_3, l_4, l_5, l_6, l_7, l_8, l_9, l_10, l_11, l_12, l_13, l_14, l_15, l_16, l_17, l_18, l_19, l_20, l_21, l_22, l_23, l_24, l_25, l_26, l_27, l_28, l_29, l_30, l_31, l_32, l_40, l_41, l_42, l_43, l_44, l_45, l_46, l_47, l_48, l_49, l_50, l_51, l_52, l_53, l_54, l_55, l_56, l_57, l_58, l_59, l_60, l_61, l_62, l_63, l_64, l_72, l_97, l_99, l_100, l_104, l_120, l_122, l_128, l_140, l_255, l_256, l_257, l_258, l_260, l_261, l_262, l_364, l_680, l_700, l_701, l_840, l_999, l_1023, l_1024, l_9999, l_10000, l_1000000, lm]
    simp only [bq_n, bd_s, mp_s, rz_0, rz_1, bI_rz, if_true, if_false, ite_true, ite_false, reduceIte, not_true, not_false, and_true, true_and, and_false, false_and, or_true, true_or, or_false, false_or, eq_self]
  have ql : ∀ σ, Wf σ → op_len .int σ (t + 10 + nS E) = some 5 := fun σ hw => len_srow hw htn h10
  have qs : ∀ k, k < 5 → ∀ σ v, Wf σ → op_sI σ (t + 10 + nS E) (nI k) v = some (ah_wI σ (t + 10 + nS E) k v) := fun k hk σ v hw => sI_srow hw htn h10 hk
  have qa : ∀ k, k < 5 → ∀ σ, Wf σ → op_aI σ (t + 10 + nS E) (nI k) = some (ah_I σ (t + 10 + nS E) k) := fun k hk σ hw => aI_srow hw htn h10 hk
  have mx : ∀ k, ∀ a j, Xin (t + 10 + nS E) k a j → Xcl t a j := fun k a j z => Xin_cl (by omega) (by omega) a j z
  rw [head]
  unfold bStr sSt5
  generalize hV1 : sCorV (tks T n) (i + 1, none) (E 228) (nC E) = V1 at *
  cases hS1 : sGo (sCorS (tks T n) (i + 1, none) (E 228) (nC E)) with
  | mk i1 o1 =>
  rw [hS1] at a2
  cases o1 with
  | some x1 =>
    obtain ⟨a2, a3⟩ := a2
    have W2 := a3.1
    have eF : sCorS (tks T n) (i1, some x1) (E 228) (nC E) = (i1, some x1) := rfl
    rw [a2, bd_s, qs 0 (by omega) _ _ W2, bd_s, qa 0 (by omega) _ (W2.wI _ _ _), bd_s, rI_eq, if_pos rfl, no, eF, sJn_s (s := (i1, some x1)) (fun z => nomatch z), show sNumS (tks T n) (sGo (i1, some x1)) 1 99 = (i1, some x1) from rfl, sOpt_f, sOpt_f]
    exact ⟨_, g2.wI (by unfold Xcl; omega), ⟨rfl, a3.fr (X := fun x y => x = t + 10 + nS E ∧ y = 0) (Fr.rfl.wI ⟨rfl, rfl⟩) (by omega)⟩, fun w => nomatch w⟩
  | none =>
    obtain ⟨a2, a3⟩ := a2
    have W2 := a3.w
    have hV : V1 < nC E := hcv (by have := (hgo (by rw [hS1])).1; rw [this])
    have c3 := a3.fr (X := fun x y => x = t + 10 + nS E ∧ y = 0) (τ := ah_wI σ2 (t + 10 + nS E) 0 (nI V1)) (Fr.rfl.wI ⟨rfl, rfl⟩) (fun x y z q => by omega)
    have cT : TR (ah_wI σ2 (t + 10 + nS E) 0 (nI V1)) t E := T2.fx (X := fun x y => x = t + 10 + nS E ∧ y = 0) (Fr.rfl.wI ⟨rfl, rfl⟩) (fun a j z q => by unfold Tdm at z; omega)
    have cW := c3.w
    have gc : Fr (Xcl t) σ (ah_wI σ2 (t + 10 + nS E) 0 (nI V1)) := g2.wI (by unfold Xcl; omega)
    rw [a2, bd_s, qs 0 (by omega) _ _ W2, bd_s, qa 0 (by omega) _ cW, bd_s, rI_eq, if_neg (nI_ne1 (by omega))]
    obtain ⟨σ3, d1, d2, d3⟩ := c_other c3 cT ((ah_R_wI _ _ _ _ _ _).trans r2) h10 hV rI_eq
    have g3 := gc.trans (d1.mono (mx 1))
    have hcv2 := fun z => (sCor_v (k := tks T n) (s := (i1, none)) (g := E 228) b0 z).1
    have hgo2 := fun z => sGo_n (s := sJn E V1 (sCorV (tks T n) (i1, none) (E 228) (nC E)) (sCorS (tks T n) (i1, none) (E 228) (nC E))) z
    have hjn := fun z => sJn_n (E := E) (a := V1) (b := sCorV (tks T n) (i1, none) (E 228) (nC E)) (s := sCorS (tks T n) (i1, none) (E 228) (nC E)) z
    generalize hV2 : sCorV (tks T n) (i1, none) (E 228) (nC E) = V2 at *
    cases hS2 : sGo (sJn E V1 V2 (sCorS (tks T n) (i1, none) (E 228) (nC E))) with
    | mk i2 o2 =>
    rw [hS2] at d2 d3
    cases o2 with
    | some x2 =>
      obtain ⟨d2, d4⟩ := d2
      rw [d2, bd_s, if_pos rfl, no, show sNumS (tks T n) (i2, some x2) 1 99 = (i2, some x2) from rfl, sOpt_f, sOpt_f]
      exact ⟨σ3, g3, ⟨rfl, d4⟩, fun w => nomatch w⟩
    | none =>
      obtain ⟨d2, d4⟩ := d2
      have j0 := congrArg (fun x : LnS => x.2) (hgo2 (by rw [hS2])).1
      obtain ⟨j1, j2, j3⟩ := hjn j0
      rw [j1] at j0
      have hVb : V2 < nC E := hcv2 j0
      rw [d2, bd_s, if_neg (show ¬ nI 1 = nI 0 by decide)]
      obtain ⟨σ4, e1, e2, e3⟩ := c_into d4 (a := t + 10 + nS E) (k := 2) (L := 5) (lo := 1) (hi := 99) (by omega) (by omega) (by omega) (by omega) (by omega) ql (qs 2 (by omega)) (qa 2 (by omega))
      have g4 := g3.trans (e1.mono (mx 2))
      have hy := fun z => sNum_n (k := tks T n) (s := (i2, none)) (lo := 1) (hi := 99) z
      generalize hS3 : sNumS (tks T n) (i2, none) 1 99 = S3 at *
      generalize hV3 : sNumV (tks T n) (i2, none) 1 99 = V3 at *
      obtain ⟨i3, _ | x3⟩ := S3
      · obtain ⟨e2, e4⟩ := e2
        rw [e2, bd_s, if_neg (show ¬ nI 1 = nI 0 by decide)]
        obtain ⟨σ5, f1, f2, f3⟩ := c_opt e4 (hv i3) (a := t + 10 + nS E) (k := 3) (L := 5) (w := 10) (hi := 3) (d := 0) (by omega) (by omega) (by omega) (by omega) (by omega) ql (qs 3 (by omega)) (qa 3 (by omega))
        have g5 := g4.trans (f1.mono (mx 3))
        have hz := fun z => sOpt_n (k := tks T n) (s := (i3, none)) (w := 10) (hi := 3) (d := 0) z (by omega)
        generalize hS4 : sOptS (tks T n) (i3, none) 10 3 = S4 at *
        generalize hV4 : sOptV (tks T n) (i3, none) 10 3 0 = V4 at *
        obtain ⟨i4, _ | x4⟩ := S4
        · obtain ⟨f2, f4⟩ := f2
          rw [f2, bd_s, if_neg (show ¬ nI 1 = nI 0 by decide)]
          obtain ⟨σ6, k1, k2, k3⟩ := c_opt f4 (hv i4) (a := t + 10 + nS E) (k := 4) (L := 5) (w := 11) (hi := 99) (d := 1) (by omega) (by omega) (by omega) (by omega) (by omega) ql (qs 4 (by omega)) (qa 4 (by omega))
          have g6 := g5.trans (k1.mono (mx 4))
          have hu := fun z => sOpt_n (k := tks T n) (s := (i4, none)) (w := 11) (hi := 99) (d := 1) z (by omega)
          generalize hS5 : sOptS (tks T n) (i4, none) 11 99 = S5 at *
          generalize hV5 : sOptV (tks T n) (i4, none) 11 99 1 = V5 at *
          obtain ⟨i5, _ | x5⟩ := S5
          · obtain ⟨k2, k4⟩ := k2
            rw [k2, bd_s, if_neg (show ¬ nI 1 = nI 0 by decide)]
            have W6 := k4.w
            have r6 : ah_R σ6 82 2 = some t := (k1.R (Or.inr (by unfold Xin Xrn; omega))).trans ((f1.R (Or.inr (by unfold Xin Xrn; omega))).trans ((e1.R (Or.inr (by unfold Xin Xrn; omega))).trans ((d1.R (Or.inr (by unfold Xin Xrn; omega))).trans ((ah_R_wI _ _ _ _ _ _).trans r2))))
            have keep : ∀ a j, ¬ Xrn a j → a ≠ t + 10 + nS E → ah_I σ6 a j = ah_I σ a j := fun a j z1 z2 => by
              have zz : ∀ k, ¬ Xin (t + 10 + nS E) k a j := fun k q => q.elim z1 (fun q => z2 q.1)
              rw [k1.I (zz _), f1.I (zz _), e1.I (zz _), d1.I (zz _), rI_ne (by omega), a1.I z1, w2.I (fun q => z1 (Xs8_r a j q))]
            have k0 : ah_I σ6 t 4 = nI (nS E) := (keep t 4 (by unfold Xrn; omega) (by omega)).trans hC0
            refine ⟨ah_wI σ6 t 4 (nI (nS E + 1)), g6.wI (by unfold Xcl; omega), ⟨?_, k4.fr (X := fun x y => x = t ∧ y = 4) (Fr.rfl.wI ⟨rfl, rfl⟩) (fun x y z q => by omega)⟩, fun _ => ?_⟩
            · unfold f_X7_readStreet_107
              rw [if_neg (show ¬ nI 1 = (0 : Int32) by decide), gR_82_2 W6, r6, bd_s, gI_t W6 htn, k0, bd_s, l_1, zadd, pI_t W6 htn, bd_s, rz_1]
              rfl
            · obtain ⟨-, -, p0, p1, -, p2⟩ := hy rfl
              refine TR_str hT (W6.wI _ _ _) h10 hV hVb j3 (by rw [p2]; exact p0) (by rw [p2]; exact p1) (hz rfl).2 (hu rfl).2 (fun a j z1 z2 => ?_) rI_eq ?_ ?_ ?_ ?_ ?_
              · rw [rI_ne (by omega)]
                exact keep a j (by unfold Tdm at z1; unfold Xrn; omega) (by unfold Tdm at z1; omega)
              · rw [rI_ne (by omega), k1.I (by unfold Xin Xrn; omega), f1.I (by unfold Xin Xrn; omega), e1.I (by unfold Xin Xrn; omega), d1.I (by unfold Xin Xrn; omega), rI_eq]
              · rw [rI_ne (by omega), k1.I (by unfold Xin Xrn; omega), f1.I (by unfold Xin Xrn; omega), e1.I (by unfold Xin Xrn; omega)]; exact d3 rfl
              · rw [rI_ne (by omega), k1.I (by unfold Xin Xrn; omega), f1.I (by unfold Xin Xrn; omega)]; exact e3 rfl
              · rw [rI_ne (by omega), k1.I (by unfold Xin Xrn; omega)]; exact f3 rfl
              · rw [rI_ne (by omega)]; exact k3 rfl
          · obtain ⟨k2, k4⟩ := k2
            rw [k2, bd_s, if_pos rfl, no]
            exact ⟨σ6, g6, ⟨rfl, k4⟩, fun w => nomatch w⟩
        · obtain ⟨f2, f4⟩ := f2
          rw [f2, bd_s, if_pos rfl, no, sOpt_f]
          exact ⟨σ5, g5, ⟨rfl, f4⟩, fun w => nomatch w⟩
      · obtain ⟨e2, e4⟩ := e2
        rw [e2, bd_s, if_pos rfl, no, sOpt_f, sOpt_f]
        exact ⟨σ4, g4, ⟨rfl, e4⟩, fun w => nomatch w⟩
end
