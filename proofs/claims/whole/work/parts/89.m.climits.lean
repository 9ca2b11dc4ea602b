/-! LINES OF THE CLASS: limits, pipe -/
section
variable {σ τ : ah_H} {T : Nat → Nat} {n N i t : Nat} {s : LnS} {E E' : DD}
theorem c_limL (h : CAt σ T n N i) (hT : TR σ t E) (hr : ah_R σ 82 2 = some t) {x a hi w : Nat} (hx : x = 6 ∧ a = t + 31 ∧ hi = 99 ∧ w = 4 ∨ x = 8 ∧ a = t + 32 ∧ hi = 12 ∧ w = 5) (hk0 : tS (tks T n i) = 0) (hkw : tV (tks T n i) = w) {m : Nat} (hm : ah_I σ t 14 = nI m) (hmb : m < 2 ^ 24) (hb : m.testBit w ≠ true) : ∃ τ, Fr (Xcm t) σ τ ∧ CYo (f_X7_readLimits 82 a (nI hi) σ) τ T n N (bLim (tks T n) E x hi (i + 1, none)).1 ∧ ((bLim (tks T n) E x hi (i + 1, none)).1.2 = none → TR τ t (bLim (tks T n) E x hi (i + 1, none)).2 ∧ ah_I τ t 14 = nI (m ||| 2 ^ w)) := by
  have hW := h.w
  have htn := hT.1
  have hTt : t = 2 ∨ t = 42 := htn
  have hhi : hi ≤ 99 := by omega
  have hw8 : w ≤ 8 := by omega
  obtain ⟨σ1, w1, w2, w3, w4⟩ := c_tell h htn hr (by omega) hm hmb (w := w) hw8 hb
  have g1 : Fr (Xcm t) σ σ1 := w2.mono Xto_m
  have W1 := w3.w
  have hk := h.2.2.2.2.1
  have hval : ah_I σ 83 9 = nI w := by
    rw [hk.vkey hk0, hkw]; unfold ckw; rw [if_pos (by omega)]
  have ql : ∀ σ, Wf σ → op_len .int σ a = some 2 := fun σ hw => by
    rcases hx with ⟨-, rfl, -⟩ | ⟨-, rfl, -⟩
    · exact len_t31 hw htn
    · exact len_t32 hw htn
  have qs : ∀ k, k < 2 → ∀ σ v, Wf σ → op_sI σ a (nI k) v = some (ah_wI σ a k v) := fun k hk σ v hw => by
    rcases hx with ⟨-, rfl, -⟩ | ⟨-, rfl, -⟩
    · exact sI_t31 hw htn hk
    · exact sI_t32 hw htn hk
  have qa : ∀ k, k < 2 → ∀ σ, Wf σ → op_aI σ a (nI k) = some (ah_I σ a k) := fun k hk σ hw => by
    rcases hx with ⟨-, rfl, -⟩ | ⟨-, rfl, -⟩
    · exact aI_t31 hw htn hk
    · exact aI_t32 hw htn hk
  have mx : ∀ k x y, Xin a k x y → Xcm t x y := fun k x y z => z.elim Or.inl (fun z => Or.inr (Or.inr (by omega)))
  have ha : a = t + 31 ∨ a = t + 32 := by omega
  have head : f_X7_readLimits 82 a (nI hi) σ = (f_X7_readInto 82 a (nI 0) (nI 0) (nI hi) σ1).bind fun r4 => if r4.1 = nI 0 then ((op_rz (nI 0)).map fun q => (q, r4.2)) else ((op_aI r4.2 a (nI 0)).bind fun v5 => (f_X7_readInto 82 a (nI 1) v5 (nI hi) r4.2).bind fun r6 => if r6.1 = nI 0 then ((op_rz (nI 0)).map fun q => (q, r6.2)) else ((op_rz (nI 1)).map fun q => (q, r6.2))) := by
    unfold f_X7_readLimits f_X7_readLimits_0
    rw [ck_82 hW, gR_82_0 hW, bd_s, gI_83 hW, hval, bd_s, w1, bd_s, if_neg (show ¬ nI 1 = (0 : Int32) by decide)]
    rfl
  rw [head]
  obtain ⟨σ2, d1, d2, d3⟩ := c_into w3 (a := a) (k := 0) (L := 2) (lo := 0) (hi := hi) (by omega) (by omega) (by omega) (by omega) (by omega) ql (qs 0 (by omega)) (qa 0 (by omega))
  have g2 := g1.trans (d1.mono (mx 0))
  have hx1 := fun z => sNum_n (k := tks T n) (s := (i + 1, none)) (lo := 0) (hi := hi) z
  unfold bLim
  generalize hS1 : sNumS (tks T n) (i + 1, none) 0 hi = S1 at *
  generalize hV1 : sNumV (tks T n) (i + 1, none) 0 hi = V1 at *
  obtain ⟨i1, _ | x1⟩ := S1
  · obtain ⟨d2, d4⟩ := d2
    have W2 := d4.w
    obtain ⟨-, -, -, q1, -, q2⟩ := hx1 rfl
    have hV1 : V1 ≤ hi := by rw [q2]; exact q1
    rw [d2, bd_s, if_neg (show ¬ nI 1 = nI 0 by decide), qa 0 (by omega) _ W2, bd_s, d3 rfl]
    obtain ⟨σ3, e1, e2, e3⟩ := c_into d4 (a := a) (k := 1) (L := 2) (lo := V1) (hi := hi) (by omega) (by omega) (by omega) (by omega) (by omega) ql (qs 1 (by omega)) (qa 1 (by omega))
    have g3 := g2.trans (e1.mono (mx 1))
    have hx2 := fun z => sNum_n (k := tks T n) (s := (i1, none)) (lo := V1) (hi := hi) z
    generalize hS2 : sNumS (tks T n) (i1, none) V1 hi = S2 at *
    generalize hV2 : sNumV (tks T n) (i1, none) V1 hi = V2 at *
    obtain ⟨i2, _ | x2⟩ := S2
    · obtain ⟨e2, e4⟩ := e2
      obtain ⟨-, -, p0, p1, -, p2⟩ := hx2 rfl
      have hV12 : V1 ≤ V2 := by rw [p2]; exact p0
      have hV2 : V2 ≤ hi := by rw [p2]; exact p1
      rw [e2, bd_s, if_neg (show ¬ nI 1 = nI 0 by decide), rz_1]
      refine ⟨σ3, g3, ⟨rfl, e4⟩, fun _ => ⟨?_, ?_⟩⟩
      · have keep : ∀ b j, Tdm E t b j → b ≠ a → ah_I σ3 b j = ah_I σ b j := fun b j z1 z2 => by
          have zz : ∀ k, ¬ Xin a k b j := fun k q => q.elim (fun q => Tdm_rn hT z1 (Or.inl q)) (fun q => z2 q.1)
          rw [e1.I (zz 1), d1.I (zz 0), w2.I (Tdm_rn hT z1)]
        have f0 : ah_I σ3 a 0 = nI V1 := by rw [e1.I (by unfold Xin Xrn; omega)]; exact d3 rfl
        have f1 : ah_I σ3 a 1 = nI V2 := e3 rfl
        obtain ⟨t1, t2, t3, t4, t5, t6, t7, t8, t9, t10, t11, t12⟩ := hT.2.2.2.1
        have hM : MT (eLim E x V1 V2) := by
          rcases hx with ⟨rfl, -, rfl, -⟩ | ⟨rfl, -, rfl, -⟩
          · exact MT_lim6 hT.2.2.1 hV12 hV2
          · exact MT_lim8 hT.2.2.1 hV12 hV2
        have o : ∀ j, j ≠ x → j ≠ x + 1 → eLim E x V1 V2 227 j = E 227 j := fun j h4 h5 => by unfold eLim; rw [up_j h5, up_j h4]
        have l0 : eLim E x V1 V2 227 x = nI V1 := by unfold eLim; rw [up_j (by omega), up_e]
        have l1 : eLim E x V1 V2 227 (x + 1) = nI V2 := by unfold eLim; rw [up_e]
        show TR σ3 t (eLim E x V1 V2)
        refine TR_num hT e4.w hM (fun y hy => by unfold eLim; rw [up_r (by omega), up_r (by omega)]) (o 0 (by omega) (by omega)) (o 1 (by omega) (by omega)) (o 2 (by omega) (by omega)) (o 3 (by omega) (by omega)) (o 11 (by omega) (by omega)) (fun b j z1 z2 => keep b j z1 (by omega)) ?_ ?_ ?_ ?_ ?_ ?_ ?_
        · rw [o 4 (by omega) (by omega), keep t 2 (by unfold Tdm; omega) (by omega)]; exact t2
        · rw [o 5 (by omega) (by omega), keep t 3 (by unfold Tdm; omega) (by omega)]; exact t3
        · unfold ct; rw [o 10 (by omega) (by omega), keep t 13 (by unfold Tdm; omega) (by omega)]; exact t7
        · unfold lf
          rcases hx with ⟨rfl, rfl, -⟩ | ⟨rfl, rfl, -⟩
          · rw [l0, ix_nI (by omega)]; exact f0
          · rw [o 6 (by omega) (by omega), keep _ 0 (by unfold Tdm; omega) (by omega)]; exact t8
        · unfold mf
          rcases hx with ⟨rfl, rfl, -⟩ | ⟨rfl, rfl, -⟩
          · rw [show (7 : Nat) = 6 + 1 from rfl, l1, ix_nI (by omega)]; exact f1
          · rw [o 7 (by omega) (by omega), keep _ 1 (by unfold Tdm; omega) (by omega)]; exact t9
        · unfold lc
          rcases hx with ⟨rfl, rfl, -⟩ | ⟨rfl, rfl, -⟩
          · rw [o 8 (by omega) (by omega), keep _ 0 (by unfold Tdm; omega) (by omega)]; exact t10
          · rw [l0, ix_nI (by omega)]; exact f0
        · unfold mc
          rcases hx with ⟨rfl, rfl, -⟩ | ⟨rfl, rfl, -⟩
          · rw [o 9 (by omega) (by omega), keep _ 1 (by unfold Tdm; omega) (by omega)]; exact t11
          · rw [show (9 : Nat) = 8 + 1 from rfl, l1, ix_nI (by omega)]; exact f1
      · rw [e1.I (by unfold Xin Xrn; omega), d1.I (by unfold Xin Xrn; omega)]; exact w4
    · obtain ⟨e2, e4⟩ := e2
      rw [e2, bd_s, if_pos rfl, rz_0]
      exact ⟨σ3, g3, ⟨rfl, e4⟩, fun w => nomatch w⟩
  · obtain ⟨d2, d4⟩ := d2
    rw [d2, bd_s, if_pos rfl, rz_0]
    exact ⟨σ2, g2, ⟨rfl, d4⟩, fun w => nomatch w⟩
/-! pipe -/
theorem TR_pip (h : TR σ t E) (hW : Wf τ) (h4 : nP E < 4) {w c : Nat} (hw1 : lpw E ≤ w) (hw : w ≤ 99) (hc : c ≤ 99) (e : ∀ a j, Tdm E t a j → ¬ (a = t ∧ j = 6) → ah_I τ a j = ah_I σ a j) (e0 : ah_I τ t 6 = nI (nP E + 1)) (f0 : ah_I τ (t + 21 + nP E) 0 = nI w) (f1 : ah_I τ (t + 21 + nP E) 1 = nI c) : TR τ t (ePip E w c) := by
  obtain ⟨ht, hw', hM, hF, hRw⟩ := h
  obtain ⟨r1, r2, r3, r4, r5, r6, r7⟩ := ePip_r (E := E) (w := w) (c := c)
  obtain ⟨n1, n2, -, n3, n4⟩ := nums_o (k := 2) (by omega) r3
  have n2 := n2 (by omega)
  have n3 := n3 (by omega)
  have n4 := n4 (by omega)
  have nP' : nP (ePip E w c) = nP E + 1 := by unfold nP; rw [r4]; exact ix_nI (by omega)
  have hRw2 := hRw.dm (τ := τ) (fun a j z y => e a j z (by omega))
  obtain ⟨t1, t2, t3, t4, t5, t6, t7, t8, t9, t10, t11, t12⟩ := hF
  refine ⟨ht, hW, MT_pip hM h4 hw1 hw hc, ?_, ?_⟩
  · unfold TF lf mf lc mc ct
    rw [n1, n2, nP', n3, n4, r3 4 (by omega), r3 5 (by omega), r3 6 (by omega), r3 7 (by omega), r3 8 (by omega), r3 9 (by omega), r3 10 (by omega)]
    rw [e t 0 (by unfold Tdm; omega) (by omega), e t 2 (by unfold Tdm; omega) (by omega), e t 3 (by unfold Tdm; omega) (by omega), e t 4 (by unfold Tdm; omega) (by omega), e t 8 (by unfold Tdm; omega) (by omega), e t 13 (by unfold Tdm; omega) (by omega), e (t+31) 0 (by unfold Tdm; omega) (by omega), e (t+31) 1 (by unfold Tdm; omega) (by omega), e (t+32) 0 (by unfold Tdm; omega) (by omega), e (t+32) 1 (by unfold Tdm; omega) (by omega), e (t+33) 0 (by unfold Tdm; omega) (by omega)]
    exact ⟨t1, t2, t3, t4, e0, t6, t7, t8, t9, t10, t11, t12⟩
  · obtain ⟨h1, h2, h3, h4, h5, h6⟩ := hRw2
    unfold TRows
    rw [n1, n2, nP', n3, n4]
    refine ⟨fun c hc => ?_, fun s hs => ?_, fun p hp => ?_, fun q hq => ?_, fun k hk => ?_, fun i hi => ?_⟩
    · have := h1 c hc
      unfold hgt are rck at *
      rw [r2 229 (by omega) (by omega), r2 230 (by omega) (by omega), r2 231 (by omega) (by omega), r2 228 (by omega) (by omega)]
      exact this
    · have := h2 s hs
      unfold sA sB len hrs rsk at *
      rw [r2 232 (by omega) (by omega), r2 233 (by omega) (by omega), r2 234 (by omega) (by omega), r2 235 (by omega) (by omega), r2 236 (by omega) (by omega)]
      exact this
    · by_cases z : p = nP E
      · subst z
        unfold wid pri
        rw [r6, r7, ix_nI (by omega), ix_nI (by omega)]
        exact ⟨f0, f1⟩
      · have := h3 p (by omega)
        unfold wid pri at *
        rw [r5 _ _ z (by omega), r5 _ _ z (by omega)]
        exact this
    · have := h4 q hq
      unfold rnh rnv at *
      rw [r1 239 (by omega), r1 240 (by omega), r1 241 (by omega)]
      exact this
    · have := h5 k hk
      unfold lfr lto at *
      rw [r1 242 (by omega), r1 243 (by omega)]
      exact this
    · rw [r1 244 (by omega), r1 245 (by omega)]
      exact h6 i hi
theorem c_pipL (h : CAt σ T n N i) (hT : TR σ t E) (hr : ah_R σ 82 2 = some t) (h4 : tS (tks T n i) ≠ 4) (hp4 : nP E < 4) : ∃ τ, Fr (Xcl t) σ τ ∧ CYo (f_X7_readPipe 82 σ) τ T n N (bPip (tks T n) E (i + 1, none)).1 ∧ ((bPip (tks T n) E (i + 1, none)).1.2 = none → TR τ t (bPip (tks T n) E (i + 1, none)).2) := by
  have hW := h.w
  have htn := hT.1
  have hTt : t = 2 ∨ t = 42 := htn
  have hlb := lpw_b hT.2.2.1 (by omega)
  have hC0 : ah_I σ t 6 = nI (nP E) := hT.2.2.2.1.2.2.2.2.1
  obtain ⟨σ1, w1, w2, w3⟩ := c_step h h4
  have g1 : Fr (Xcl t) σ σ1 := w2.mono (fun a j z => Or.inl (Xs8_r a j z))
  have T1 := hT.rn (w2.mono Xs8_r)
  have r1 : ah_R σ1 82 2 = some t := (w2.R (Or.inr (by unfold Xs8; omega))).trans hr
  have W1 := w3.w
  have hC1 : ah_I σ1 t 6 = nI (nP E) := T1.2.2.2.1.2.2.2.2.1
  have head : f_X7_readPipe 82 σ = f_X7_readPipe_59 82 (nI (lpw E)) σ1 := by
    unfold f_X7_readPipe f_X7_readPipe_0
    rw [ck_82 hW, gR_82_2 hW, hr, bd_s, gI_t hW htn, hC0, bd_s, if_pos (show nI (nP E) < (4 : Int32) from (show nI (nP E) < nI 4 by rw [lt_nI (by omega) (by omega)]; exact hp4)), gR_82_0 hW, bd_s, w1, bd_s, gR_82_2 W1, r1, bd_s, gI_t W1 htn, hC1, bd_s]
    by_cases z : nP E = 0
    · rw [if_pos (by rw [z]; rfl), show lpw E = 1 from if_pos z]
      rfl
    · have ew : ah_I σ1 (t + 21 + (nP E - 1)) 0 = nI (wid E (nP E - 1)) := (T1.2.2.2.2.2.2.1 (nP E - 1) (by omega)).1
      rw [if_neg (show ¬ nI (nP E) = (0 : Int32) by rw [l_0, eq_nI (by omega) (by omega)]; exact z), bd_s, gR_t_7 W1 htn, bd_s, bd_s, gI_t W1 htn, hC1, bd_s, l_1, zsub (by omega), aR_prow W1 htn (by omega), bd_s, l_0, aI_prow W1 htn (by omega) (by omega), bd_s, ew, zadd, show lpw E = wid E (nP E - 1) + 1 from if_neg z]
  rw [head]
  have ql : ∀ σ, Wf σ → op_len .int σ (t + 21 + nP E) = some 2 := fun σ hw => len_prow hw htn hp4
  have qs : ∀ k, k < 2 → ∀ σ v, Wf σ → op_sI σ (t + 21 + nP E) (nI k) v = some (ah_wI σ (t + 21 + nP E) k v) := fun k hk σ v hw => sI_prow hw htn hp4 hk
  have qa : ∀ k, k < 2 → ∀ σ, Wf σ → op_aI σ (t + 21 + nP E) (nI k) = some (ah_I σ (t + 21 + nP E) k) := fun k hk σ hw => aI_prow hw htn hp4 hk
  have mx : ∀ k, ∀ a j, Xin (t + 21 + nP E) k a j → Xcl t a j := fun k a j z => Xin_cl (by omega) (by omega) a j z
  obtain ⟨σ2, d1, d2, d3⟩ := c_into w3 (a := t + 21 + nP E) (k := 0) (L := 2) (lo := lpw E) (hi := 99) (by omega) (by omega) (by omega) (by omega) (by omega) ql (qs 0 (by omega)) (qa 0 (by omega))
  have g2 := g1.trans (d1.mono (mx 0))
  have hx1 := fun z => sNum_n (k := tks T n) (s := (i + 1, none)) (lo := lpw E) (hi := 99) z
  unfold bPip
  generalize hS1 : sNumS (tks T n) (i + 1, none) (lpw E) 99 = S1 at *
  generalize hV1 : sNumV (tks T n) (i + 1, none) (lpw E) 99 = V1 at *
  unfold f_X7_readPipe_59
  rw [gR_82_2 W1, r1, bd_s, gR_t_7 W1 htn, bd_s, bd_s, gI_t W1 htn, hC1, bd_s, aR_prow W1 htn hp4, bd_s]
  obtain ⟨i1, _ | x1⟩ := S1
  · obtain ⟨d2, d4⟩ := d2
    obtain ⟨-, -, q0, q1, -, q2⟩ := hx1 rfl
    rw [show f_X7_readInto 82 (t + 21 + nP E) (0 : Int32) (nI (lpw E)) (99 : Int32) σ1 = some (nI 1, σ2) from d2, bd_s, if_neg (show ¬ nI 1 = (0 : Int32) by decide)]
    obtain ⟨σ3, e1, e2, e3⟩ := c_into d4 (a := t + 21 + nP E) (k := 1) (L := 2) (lo := 0) (hi := 99) (by omega) (by omega) (by omega) (by omega) (by omega) ql (qs 1 (by omega)) (qa 1 (by omega))
    have g3 := g2.trans (e1.mono (mx 1))
    have hx2 := fun z => sNum_n (k := tks T n) (s := (i1, none)) (lo := 0) (hi := 99) z
    generalize hS2 : sNumS (tks T n) (i1, none) 0 99 = S2 at *
    generalize hV2 : sNumV (tks T n) (i1, none) 0 99 = V2 at *
    obtain ⟨i2, _ | x2⟩ := S2
    · obtain ⟨e2, e4⟩ := e2
      obtain ⟨-, -, -, p1, -, p2⟩ := hx2 rfl
      have W3 := e4.w
      have r3 : ah_R σ3 82 2 = some t := (e1.R (Or.inr (by unfold Xin Xrn; omega))).trans ((d1.R (Or.inr (by unfold Xin Xrn; omega))).trans r1)
      have keep : ∀ a j, ¬ Xrn a j → a ≠ t + 21 + nP E → ah_I σ3 a j = ah_I σ a j := fun a j z1 z2 => by
        have zz : ∀ k, ¬ Xin (t + 21 + nP E) k a j := fun k q => q.elim z1 (fun q => z2 q.1)
        rw [e1.I (zz _), d1.I (zz _), w2.I (fun q => z1 (Xs8_r a j q))]
      have k6 : ah_I σ3 t 6 = nI (nP E) := (keep t 6 (by unfold Xrn; omega) (by omega)).trans hC0
      rw [show f_X7_readInto 82 (t + 21 + nP E) (1 : Int32) (0 : Int32) (99 : Int32) σ2 = some (nI 1, σ3) from e2, bd_s, if_neg (show ¬ nI 1 = (0 : Int32) by decide), gR_82_2 W3, r3, bd_s, gI_t W3 htn, k6, bd_s, l_1, zadd, pI_t W3 htn, bd_s, rz_1]
      refine ⟨ah_wI σ3 t 6 (nI (nP E + 1)), g3.wI (by unfold Xcl; omega), ⟨rfl, e4.fr (X := fun x y => x = t ∧ y = 6) (Fr.rfl.wI ⟨rfl, rfl⟩) (fun x y z q => by omega)⟩, fun _ => ?_⟩
      refine TR_pip hT (W3.wI _ _ _) hp4 (by rw [q2]; exact q0) (by rw [q2]; exact q1) (by rw [p2]; exact p1) (fun a j z1 z2 => ?_) rI_eq ?_ ?_
      · rw [rI_ne (by omega)]
        have b0 : nC E ≤ 7 := hT.2.2.1.1.1.2
        have b1 : nS E ≤ 10 := hT.2.2.1.1.2.1.2
        have b3 : nR E ≤ 4 := hT.2.2.1.1.2.2.2.1.2
        exact keep a j (by unfold Tdm at z1; unfold Xrn; omega) (by unfold Tdm at z1; omega)
      · rw [rI_ne (by omega), e1.I (by unfold Xin Xrn; omega)]; exact d3 rfl
      · rw [rI_ne (by omega)]; exact e3 rfl
    · obtain ⟨e2, e4⟩ := e2
      rw [show f_X7_readInto 82 (t + 21 + nP E) (1 : Int32) (0 : Int32) (99 : Int32) σ2 = some (nI 0, σ3) from e2, bd_s, if_pos (show nI 0 = (0 : Int32) from rfl), l_0, rz_0]
      exact ⟨σ3, g3, ⟨rfl, e4⟩, fun w => nomatch w⟩
  · obtain ⟨d2, d4⟩ := d2
    rw [show f_X7_readInto 82 (t + 21 + nP E) (0 : Int32) (nI (lpw E)) (99 : Int32) σ1 = some (nI 0, σ2) from d2, bd_s, if_pos (show nI 0 = (0 : Int32) from rfl), l_0, rz_0]
    exact ⟨σ2, g2, ⟨rfl, d4⟩, fun w => nomatch w⟩
end
