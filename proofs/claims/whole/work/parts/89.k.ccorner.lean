/-! LINES OF THE CLASS: corner -/
/-- the cells that tell E -/
def Tdm (E : DD) (t a j : Nat) : Prop := a = t ∧ j ≤ 13 ∨ t + 2 ≤ a ∧ a < t + 2 + nC E ∨ t + 10 ≤ a ∧ a < t + 10 + nS E ∨ t + 21 ≤ a ∧ a < t + 21 + nP E ∨ a = t + 25 ∧ j < nR E ∨ t + 27 ≤ a ∧ a < t + 27 + nR E ∨ t + 31 ≤ a ∧ a ≤ t + 32 ∨ a = t + 33 ∧ j = 0 ∨ t + 34 ≤ a ∧ a ≤ t + 37
section
variable {σ τ : ah_H} {T : Nat → Nat} {n N i t : Nat} {s : LnS} {E E' : DD}
theorem TF.dm (h : TF σ t E) (e : ∀ a j, Tdm E t a j → ah_I τ a j = ah_I σ a j) : TF τ t E := by
  unfold TF at *
  rw [e t 0 (by unfold Tdm; omega), e t 2 (by unfold Tdm; omega), e t 3 (by unfold Tdm; omega), e t 4 (by unfold Tdm; omega), e t 6 (by unfold Tdm; omega), e t 8 (by unfold Tdm; omega), e t 13 (by unfold Tdm; omega), e (t+31) 0 (by unfold Tdm; omega), e (t+31) 1 (by unfold Tdm; omega), e (t+32) 0 (by unfold Tdm; omega), e (t+32) 1 (by unfold Tdm; omega), e (t+33) 0 (by unfold Tdm; omega)]
  exact h
theorem TRows.dm (h : TRows σ t E) (e : ∀ a j, Tdm E t a j → a ≠ t → ah_I τ a j = ah_I σ a j) : TRows τ t E := by
  obtain ⟨h1, h2, h3, h4, h5, h6⟩ := h
  refine ⟨fun c hc => ?_, fun s hs => ?_, fun p hp => ?_, fun r hr => ⟨?_, fun q hq => ?_⟩, fun k hk => ?_, fun i hi => ?_⟩
  · rw [e _ 0 (by unfold Tdm; omega) (by omega), e _ 1 (by unfold Tdm; omega) (by omega), e _ 2 (by unfold Tdm; omega) (by omega), e _ 3 (by unfold Tdm; omega) (by omega)]; exact h1 c hc
  · rw [e _ 0 (by unfold Tdm; omega) (by omega), e _ 1 (by unfold Tdm; omega) (by omega), e _ 2 (by unfold Tdm; omega) (by omega), e _ 3 (by unfold Tdm; omega) (by omega), e _ 4 (by unfold Tdm; omega) (by omega)]; exact h2 s hs
  · rw [e _ 0 (by unfold Tdm; omega) (by omega), e _ 1 (by unfold Tdm; omega) (by omega)]; exact h3 p hp
  · rw [e _ r (by unfold Tdm; omega) (by omega)]; exact (h4 r hr).1
  · rw [e _ q (by unfold Tdm; omega) (by omega)]; exact (h4 r hr).2 q hq
  · rw [e _ k (by unfold Tdm; omega) (by omega), e _ k (by unfold Tdm; omega) (by omega)]; exact h5 k hk
  · rw [e _ i (by unfold Tdm; omega) (by omega), e _ i (by unfold Tdm; omega) (by omega)]; exact h6 i hi
theorem TR.dm (h : TR σ t E) (hW : Wf τ) (e : ∀ a j, Tdm E t a j → ah_I τ a j = ah_I σ a j) : TR τ t E := ⟨h.1, hW, h.2.2.1, h.2.2.2.1.dm e, h.2.2.2.2.dm (fun a j z _ => e a j z)⟩
theorem TR.fx {X : Nat → Nat → Prop} (h : TR σ t E) (g : Fr X σ τ) (hX : ∀ a j, Tdm E t a j → ¬ X a j) : TR τ t E := h.dm (h.2.1.fr g) (fun a j z => g.I (hX a j z))
theorem TR.rn (h : TR σ t E) (g : Fr Xrn σ τ) : TR τ t E := by
  have hT : t = 2 ∨ t = 42 := h.1
  have b0 : nC E ≤ 7 := h.2.2.1.1.1.2
  have b1 : nS E ≤ 10 := h.2.2.1.1.2.1.2
  have b2 : nP E ≤ 4 := h.2.2.1.1.2.2.1.2
  have b3 : nR E ≤ 4 := h.2.2.1.1.2.2.2.1.2
  exact h.fx g (fun a j z q => by unfold Xrn at q; unfold Tdm at z; omega)
theorem TR_cor (h : TR σ t E) (hW : Wf τ) (h7 : nC E < 7) {m x y r : Nat} (hx : x ≤ 999) (hy : y ≤ 99) (hr : r ≤ 20) (e : ∀ a j, Tdm E t a j → ¬ (a = t ∧ j = 0) → ah_I τ a j = ah_I σ a j) (e0 : ah_I τ t 0 = nI (nC E + 1)) (f0 : ah_I τ (t + 2 + nC E) 0 = nI x) (f1 : ah_I τ (t + 2 + nC E) 1 = nI y) (f2 : ah_I τ (t + 2 + nC E) 2 = nI r) (f3 : ah_I τ (t + 2 + nC E) 3 = nI m) : TR τ t (eCor E m x y r) := by
  obtain ⟨ht, hw, hM, hF, hRw⟩ := h
  obtain ⟨r1, r2, r3, r4, r5, r6, r7, r8⟩ := eCor_r (E := E) (n := m) (h := x) (a := y) (r := r)
  obtain ⟨n1, n2, n3, n4, n5, n6, n7, n8, n9, n10⟩ := eCor_n hM h7 (n := m) (h := x) (a := y) (r := r)
  have hRw2 := hRw.dm (τ := τ) (fun a j z y => e a j z (by omega))
  obtain ⟨t1, t2, t3, t4, t5, t6, t7, t8, t9, t10, t11, t12⟩ := hF
  refine ⟨ht, hW, MT_cor hM h7 hx hy hr, ?_, ?_⟩
  · unfold TF
    rw [n1, n2, n3, n4, n5, n6, n7, n8, n9, n10, r2 4 (by omega), r2 5 (by omega)]
    rw [e t 2 (by unfold Tdm; omega) (by omega), e t 3 (by unfold Tdm; omega) (by omega), e t 4 (by unfold Tdm; omega) (by omega), e t 6 (by unfold Tdm; omega) (by omega), e t 8 (by unfold Tdm; omega) (by omega), e t 13 (by unfold Tdm; omega) (by omega), e (t+31) 0 (by unfold Tdm; omega) (by omega), e (t+31) 1 (by unfold Tdm; omega) (by omega), e (t+32) 0 (by unfold Tdm; omega) (by omega), e (t+32) 1 (by unfold Tdm; omega) (by omega), e (t+33) 0 (by unfold Tdm; omega) (by omega)]
    exact ⟨e0, t2, t3, t4, t5, t6, t7, t8, t9, t10, t11, t12⟩
  · obtain ⟨h1, h2, h3, h4, h5, h6⟩ := hRw2
    unfold TRows
    rw [n1, n2, n3, n4, n5]
    refine ⟨fun c hc => ?_, fun s hs => ?_, fun p hp => ?_, fun q hq => ?_, fun k hk => ?_, fun i hi => ?_⟩
    · by_cases z : c = nC E
      · subst z
        unfold hgt are rck
        rw [r5, r6, r7, r8, ix_nI (by omega), ix_nI (by omega), ix_nI (by omega)]
        exact ⟨f0, f1, f2, f3⟩
      · have := h1 c (by omega)
        unfold hgt are rck at *
        rw [r4 _ _ z (by omega), r4 _ _ z (by omega), r4 _ _ z (by omega), r4 _ _ z (by omega)]
        exact this
    · have := h2 s hs
      unfold sA sB len hrs rsk at *
      rw [r1 232 (by omega), r1 233 (by omega), r1 234 (by omega), r1 235 (by omega), r1 236 (by omega)]
      exact this
    · have := h3 p hp
      unfold wid pri at *
      rw [r1 237 (by omega), r1 238 (by omega)]
      exact this
    · have := h4 q hq
      unfold rnh rnv at *
      rw [r1 239 (by omega), r1 240 (by omega), r1 241 (by omega)]
      exact this
    · have := h5 k hk
      unfold lfr lto at *
      rw [r1 242 (by omega), r1 243 (by omega)]
      exact this
    · rw [r1 244 (by omega), r1 245 (by omega)]
      exact h6 i hi
theorem sOpt_f {k : Nat → TK} {x : Nat × Nat} {w hi : Nat} : sOptS k (i, some x) w hi = (i, some x) := if_neg (fun z => nomatch z.1)
/-- what a line writes -/
def Xcl (t a j : Nat) : Prop := Xrn a j ∨ a = t ∧ j ≤ 13 ∨ t < a ∧ a ≤ t + 32
theorem Xin_cl {b k : Nat} (h1 : t < b) (h2 : b ≤ t + 32) : ∀ a j, Xin b k a j → Xcl t a j := fun a j z => z.elim Or.inl (fun z => Or.inr (Or.inr (by omega)))
theorem c_corL (h : CAt σ T n N i) (hv : ∀ i, TVb (tks T n i)) (hT : TR σ t E) (hr : ah_R σ 82 2 = some t) (h4 : tS (tks T n i) ≠ 4) (h7 : nC E < 7) : ∃ τ, Fr (Xcl t) σ τ ∧ CYo (f_X7_readCorner 82 σ) τ T n N (bCor (tks T n) E (i + 1, none)).1 ∧ ((bCor (tks T n) E (i + 1, none)).1.2 = none → TR τ t (bCor (tks T n) E (i + 1, none)).2) := by
  have hW := h.w
  have htn := hT.1
  have hTt : t = 2 ∨ t = 42 := htn
  have hC0 : ah_I σ t 0 = nI (nC E) := hT.2.2.2.1.1
  obtain ⟨σ1, w1, w2, w3⟩ := c_step h h4
  have g1 : Fr (Xcl t) σ σ1 := w2.mono (fun a j z => Or.inl (Xs8_r a j z))
  have T1 := hT.rn (w2.mono Xs8_r)
  have r1 : ah_R σ1 82 2 = some t := (w2.R (Or.inr (by unfold Xs8; omega))).trans hr
  have W1 := w3.w
  have hC1 : ah_I σ1 t 0 = nI (nC E) := T1.2.2.2.1.1
  obtain ⟨σ2, a1, a2⟩ := c_nam w3 T1 r1 (w := 0) (a := 228) (m := nC E) (by omega)
  have r2 : ah_R σ2 82 2 = some t := (a1.R (Or.inr (by unfold Xrn; omega))).trans r1
  have g2 : Fr (Xcl t) σ σ2 := g1.trans (a1.mono (fun a j z => Or.inl z))
  have T2 := T1.rn a1
  have hnm : sNamV (tks T n) (i + 1, none) (E 228) (nC E) < 2147483648 := by
    show (if _ then _ else 0) < 2147483648
    split
    · rename_i z; have := (hv (i + 1)).2.1 z.1; omega
    · omega
  unfold bCor
  generalize hS1 : sNamS (tks T n) (i + 1, none) (E 228) (nC E) = S1 at *
  generalize hV1 : sNamV (tks T n) (i + 1, none) (E 228) (nC E) = V1 at *
  have head : f_X7_readCorner 82 σ = (f_X7_readNewName 82 (nI 0) σ1).bind fun r10 => (op_sI r10.2 (t + 2 + nC E) (nI 3) r10.1).bind fun σ11 => (op_aI σ11 (t + 2 + nC E) (nI 3)).bind fun v12 => if v12 = mI 1 then (f_X7_readCorner_100 82 σ11) else ((f_X7_readInto 82 (t + 2 + nC E) (nI 0) (nI 0) (nI 999) σ11).bind fun r13 => if r13.1 = nI 0 then (f_X7_readCorner_100 82 r13.2) else ((f_X7_readInto 82 (t + 2 + nC E) (nI 1) (nI 0) (nI 99) r13.2).bind fun r14 => if r14.1 = nI 0 then (f_X7_readCorner_100 82 r14.2) else ((f_X7_readOption 82 (nI 9) (t + 2 + nC E) (nI 2) (nI 20) (nI 20) r14.2).bind fun r15 => if r15.1 = nI 0 then (f_X7_readCorner_100 82 r15.2) else (f_X7_readCorner_101 82 (nI 1) r15.2)))) := by
    unfold f_X7_readCorner f_X7_readCorner_0
    rw [ck_82 hW, gR_82_2 hW, hr, bd_s, gI_t hW htn, hC0, bd_s, if_pos (show nI (nC E) < (7 : Int32) from (show nI (nC E) < nI 7 by rw [lt_nI (by omega) (by omega)]; exact h7)), gR_82_0 hW, bd_s, w1, bd_s, gR_82_2 W1, r1, bd_s, gR_t_1 W1 htn, bd_s, bd_s, gI_t W1 htn, hC1, bd_s, aR_crow W1 htn h7, bd_s]
    rfl
  have no : ∀ υ, f_X7_readCorner_100 82 υ = some (nI 0, υ) := fun υ => by
    unfold f_X7_readCorner_100 f_X7_readCorner_101
    simp only [to_bq, l_0, l_1, l_2, l_3, l_4, l_5, l_6, l_7, l_8, l_9, l_10, l_11, l_12, l_13, l_14, l_15, l_16, l_17, l_18, l_19, l_20, l_21, l_22, l_23, l_24, l_25, l_26, l_27, l_28, l_29, l_30, l_31, l_32, l_40, l_41, l_42, l_43, l_44, l_45, l_46, l_47, l_48, l_49, l_50, l_51, l_52, l_53, l_54, l_55, l_56, l_57, l_58, l_59, l_60, l_61, l_62, l_63, l_64, l_72, l_97, l_99, l_100, l_104, l_120, l_122, l_128, l_140, l_255, l_256, l_257, l_258, l_260, l_261, l_262, l_364, l_680, l_700, l_701, l_840, l_999, l_1023, l_1024, l_9999, l_10000, l_1000000, lm]
    simp only [bq_n, bd_s, mp_s, rz_0, rz_1, bI_rz, if_true, if_false, ite_true, ite_false, reduceIte, not_true, not_false, and_true, true_and, and_false, false_and, or_true, true_or, or_false, false_or, eq_self]
  rw [head]
  obtain ⟨i1, _ | x1⟩ := S1
  · obtain ⟨a2, a3⟩ := a2
    have W2 := a3.w
    have c3 := a3.fr (X := fun x y => x = t + 2 + nC E ∧ y = 3) (τ := ah_wI σ2 (t + 2 + nC E) 3 (nI V1)) (Fr.rfl.wI ⟨rfl, rfl⟩) (fun x y z q => by omega)
    have cW := c3.w
    have gc : Fr (Xcl t) σ (ah_wI σ2 (t + 2 + nC E) 3 (nI V1)) := g2.wI (by unfold Xcl; omega)
    rw [a2, bd_s, sI_crow W2 htn h7 (by omega), bd_s, aI_crow cW htn h7 (by omega), bd_s, rI_eq, if_neg (nI_ne1 hnm)]
    have ql : ∀ σ, Wf σ → op_len .int σ (t + 2 + nC E) = some 4 := fun σ hw => len_crow hw htn h7
    have qs : ∀ k, k < 4 → ∀ σ v, Wf σ → op_sI σ (t + 2 + nC E) (nI k) v = some (ah_wI σ (t + 2 + nC E) k v) := fun k hk σ v hw => sI_crow hw htn h7 hk
    have qa : ∀ k, k < 4 → ∀ σ, Wf σ → op_aI σ (t + 2 + nC E) (nI k) = some (ah_I σ (t + 2 + nC E) k) := fun k hk σ hw => aI_crow hw htn h7 hk
    have mx : ∀ k, k < 4 → ∀ a j, Xin (t + 2 + nC E) k a j → Xcl t a j := fun k hk a j z => Xin_cl (by omega) (by omega) a j z
    obtain ⟨σ3, d1, d2, d3⟩ := c_into c3 (a := t + 2 + nC E) (k := 0) (L := 4) (lo := 0) (hi := 999) (by omega) (by omega) (by omega) (by omega) (by omega) ql (qs 0 (by omega)) (qa 0 (by omega))
    have g3 := gc.trans (d1.mono (mx 0 (by omega)))
    have hx := fun z => sNum_n (k := tks T n) (s := (i1, none)) (lo := 0) (hi := 999) z
    generalize hS2 : sNumS (tks T n) (i1, none) 0 999 = S2 at *
    generalize hV2 : sNumV (tks T n) (i1, none) 0 999 = V2 at *
    obtain ⟨i2, _ | x2⟩ := S2
    · obtain ⟨d2, d4⟩ := d2
      rw [d2, bd_s, if_neg (show ¬ nI 1 = nI 0 by decide)]
      obtain ⟨σ4, e1, e2, e3⟩ := c_into d4 (a := t + 2 + nC E) (k := 1) (L := 4) (lo := 0) (hi := 99) (by omega) (by omega) (by omega) (by omega) (by omega) ql (qs 1 (by omega)) (qa 1 (by omega))
      have g4 := g3.trans (e1.mono (mx 1 (by omega)))
      have hy := fun z => sNum_n (k := tks T n) (s := (i2, none)) (lo := 0) (hi := 99) z
      generalize hS3 : sNumS (tks T n) (i2, none) 0 99 = S3 at *
      generalize hV3 : sNumV (tks T n) (i2, none) 0 99 = V3 at *
      obtain ⟨i3, _ | x3⟩ := S3
      · obtain ⟨e2, e4⟩ := e2
        rw [e2, bd_s, if_neg (show ¬ nI 1 = nI 0 by decide)]
        obtain ⟨σ5, f1, f2, f3⟩ := c_opt e4 (hv i3) (a := t + 2 + nC E) (k := 2) (L := 4) (w := 9) (hi := 20) (d := 20) (by omega) (by omega) (by omega) (by omega) (by omega) ql (qs 2 (by omega)) (qa 2 (by omega))
        have g5 := g4.trans (f1.mono (mx 2 (by omega)))
        have hz := fun z => sOpt_n (k := tks T n) (s := (i3, none)) (w := 9) (hi := 20) (d := 20) z (by omega)
        generalize hS4 : sOptS (tks T n) (i3, none) 9 20 = S4 at *
        generalize hV4 : sOptV (tks T n) (i3, none) 9 20 20 = V4 at *
        obtain ⟨i4, _ | x4⟩ := S4
        · obtain ⟨f2, f4⟩ := f2
          rw [f2, bd_s, if_neg (show ¬ nI 1 = nI 0 by decide)]
          have W5 := f4.w
          have r5 : ah_R σ5 82 2 = some t := (f1.R (Or.inr (by unfold Xin Xrn; omega))).trans ((e1.R (Or.inr (by unfold Xin Xrn; omega))).trans ((d1.R (Or.inr (by unfold Xin Xrn; omega))).trans ((ah_R_wI _ _ _ _ _ _).trans r2)))
          have keep : ∀ a j, ¬ Xrn a j → a ≠ t + 2 + nC E → ah_I σ5 a j = ah_I σ a j := fun a j z1 z2 => by
            have zz : ∀ k, ¬ Xin (t + 2 + nC E) k a j := fun k q => q.elim z1 (fun q => z2 q.1)
            rw [f1.I (zz _), e1.I (zz _), d1.I (zz _), rI_ne (by omega), a1.I z1, w2.I (fun q => z1 (Xs8_r a j q))]
          have k0 : ah_I σ5 t 0 = nI (nC E) := (keep t 0 (by unfold Xrn; omega) (by omega)).trans hC0
          refine ⟨ah_wI σ5 t 0 (nI (nC E + 1)), g5.wI (by unfold Xcl; omega), ⟨?_, f4.fr (X := fun x y => x = t ∧ y = 0) (Fr.rfl.wI ⟨rfl, rfl⟩) (fun x y z q => by omega)⟩, fun _ => ?_⟩
          · unfold f_X7_readCorner_101
            rw [if_neg (show ¬ nI 1 = (0 : Int32) by decide), gR_82_2 W5, r5, bd_s, gI_t W5 htn, k0, bd_s, l_1, zadd, pI_t W5 htn, bd_s, rz_1]
            rfl
          · refine TR_cor hT (W5.wI _ _ _) h7 ?_ ?_ ?_ (fun a j z1 z2 => ?_) rI_eq ?_ ?_ ?_ ?_
            · obtain ⟨-, -, -, q1, -, q2⟩ := hx rfl
              rw [q2]; exact q1
            · obtain ⟨-, -, -, q1, -, q2⟩ := hy rfl
              rw [q2]; exact q1
            · exact (hz rfl).2
            · rw [rI_ne (by omega)]
              have b1 : nS E ≤ 10 := hT.2.2.1.1.2.1.2
              have b2 : nP E ≤ 4 := hT.2.2.1.1.2.2.1.2
              have b3 : nR E ≤ 4 := hT.2.2.1.1.2.2.2.1.2
              exact keep a j (by unfold Tdm at z1; unfold Xrn; omega) (by unfold Tdm at z1; omega)
            · rw [rI_ne (by omega), f1.I (by unfold Xin Xrn; omega), e1.I (by unfold Xin Xrn; omega)]; exact d3 rfl
            · rw [rI_ne (by omega), f1.I (by unfold Xin Xrn; omega)]; exact e3 rfl
            · rw [rI_ne (by omega)]; exact f3 rfl
            · rw [rI_ne (by omega), f1.I (by unfold Xin Xrn; omega), e1.I (by unfold Xin Xrn; omega), d1.I (by unfold Xin Xrn; omega), rI_eq]
        · obtain ⟨f2, f4⟩ := f2
          rw [f2, bd_s, if_pos rfl, no]
          exact ⟨σ5, g5, ⟨rfl, f4⟩, fun w => nomatch w⟩
      · obtain ⟨e2, e4⟩ := e2
        rw [e2, bd_s, if_pos rfl, no, sOpt_f]
        exact ⟨σ4, g4, ⟨rfl, e4⟩, fun w => nomatch w⟩
    · obtain ⟨d2, d4⟩ := d2
      rw [d2, bd_s, if_pos rfl, no, show sNumS (tks T n) (i2, some x2) 0 99 = (i2, some x2) from rfl, sOpt_f]
      exact ⟨σ3, g3, ⟨rfl, d4⟩, fun w => nomatch w⟩
  · obtain ⟨a2, a3⟩ := a2
    have W2 := a3.1
    rw [a2, bd_s, sI_crow W2 htn h7 (by omega), bd_s, aI_crow (W2.wI _ _ _) htn h7 (by omega), bd_s, rI_eq, if_pos rfl, no, show sNumS (tks T n) (sNumS (tks T n) (i1, some x1) 0 999) 0 99 = (i1, some x1) from rfl, sOpt_f]
    exact ⟨_, g2.wI (by unfold Xcl; omega), ⟨rfl, a3.fr (X := fun x y => x = t + 2 + nC E ∧ y = 3) (Fr.rfl.wI ⟨rfl, rfl⟩) (by omega)⟩, fun w => nomatch w⟩
end
