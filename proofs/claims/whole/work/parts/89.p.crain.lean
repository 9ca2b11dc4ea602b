/-! LINES OF THE CLASS: rain -/
def sR2 (k : Nat → TK) (f i : Nat) (vs : List Nat) : LnS × List Nat := if tS (k i) = 2 then sRn k f i vs else ((i, none), vs)
section
variable {σ τ : ah_H} {T : Nat → Nat} {n N i t : Nat} {s : LnS} {E E' : DD}
theorem TR_rai (h : TR σ t E) (hW : Wf τ) (h4 : nR E < 4) {m : Nat} {vs : List Nat} (hl : vs.length ≤ 6) (hv : ∀ i, i < vs.length → vs.getD i 0 ≤ 99) (e : ∀ a j, Tdm E t a j → ¬ (a = t ∧ j = 8) → ah_I τ a j = ah_I σ a j) (e0 : ah_I τ t 8 = nI (nR E + 1)) (f0 : ah_I τ (t + 25) (nR E) = nI m) (f1 : ∀ h, h < 6 → ah_I τ (t + 27 + nR E) h = nI (vs.getD h 0)) : TR τ t (eRai E m vs) := by
  obtain ⟨ht, hw', hM, hF, hRw⟩ := h
  obtain ⟨r1, r2, r3, r4, r5, r6, r7, r8, r9⟩ := eRai_r (E := E) (n := m) (vs := vs)
  obtain ⟨n1, n2, n3, -, n4⟩ := nums_o (k := 3) (by omega) r3
  have n2 := n2 (by omega)
  have n3 := n3 (by omega)
  have n4 := n4 (by omega)
  have nR' : nR (eRai E m vs) = nR E + 1 := by unfold nR; rw [r4]; exact ix_nI (by omega)
  have hRw2 := hRw.dm (τ := τ) (fun a j z y => e a j z (by omega))
  obtain ⟨t1, t2, t3, t4, t5, t6, t7, t8, t9, t10, t11, t12⟩ := hF
  refine ⟨ht, hW, MT_rai hM h4 hl hv, ?_, ?_⟩
  · unfold TF lf mf lc mc ct
    rw [n1, n2, n3, nR', n4, r3 4 (by omega), r3 5 (by omega), r3 6 (by omega), r3 7 (by omega), r3 8 (by omega), r3 9 (by omega), r3 10 (by omega)]
    rw [e t 0 (by unfold Tdm; omega) (by omega), e t 2 (by unfold Tdm; omega) (by omega), e t 3 (by unfold Tdm; omega) (by omega), e t 4 (by unfold Tdm; omega) (by omega), e t 6 (by unfold Tdm; omega) (by omega), e t 13 (by unfold Tdm; omega) (by omega), e (t+31) 0 (by unfold Tdm; omega) (by omega), e (t+31) 1 (by unfold Tdm; omega) (by omega), e (t+32) 0 (by unfold Tdm; omega) (by omega), e (t+32) 1 (by unfold Tdm; omega) (by omega), e (t+33) 0 (by unfold Tdm; omega) (by omega)]
    exact ⟨t1, t2, t3, t4, t5, e0, t7, t8, t9, t10, t11, t12⟩
  · obtain ⟨h1, h2, h3, h4', h5, h6⟩ := hRw2
    unfold TRows
    rw [n1, n2, n3, nR', n4]
    refine ⟨fun c hc => ?_, fun s hs => ?_, fun p hp => ?_, fun q hq => ?_, fun k hk => ?_, fun i hi => ?_⟩
    · have := h1 c hc
      unfold hgt are rck at *
      rw [r2 229 (by omega) (by omega), r2 230 (by omega) (by omega), r2 231 (by omega) (by omega), r2 228 (by omega) (by omega)]
      exact this
    · have := h2 s hs
      unfold sA sB len hrs rsk at *
      rw [r2 232 (by omega) (by omega), r2 233 (by omega) (by omega), r2 234 (by omega) (by omega), r2 235 (by omega) (by omega), r2 236 (by omega) (by omega)]
      exact this
    · have := h3 p hp
      unfold wid pri at *
      rw [r2 237 (by omega) (by omega), r2 238 (by omega) (by omega)]
      exact this
    · by_cases z : q = nR E
      · subst z
        have eh : rnh (eRai E m vs) (nR E) = vs.length := by unfold rnh; rw [r7]; exact ix_nI (by omega)
        rw [r6, eh]
        refine ⟨f0, fun h hh => ?_⟩
        rw [f1 h hh]
        by_cases y : h < vs.length
        · rw [if_pos y]
          unfold rnv
          have := hv h y
          rw [r8 h y, ix_nI (by omega)]
        · rw [if_neg y, List.getD_eq_getElem?_getD, List.getElem?_eq_none (by omega)]
          rfl
      · have := h4' q (by omega)
        have eh : rnh (eRai E m vs) q = rnh E q := by unfold rnh; rw [r5 _ _ z (by omega) (by omega)]
        rw [r5 _ _ z (by omega) (by omega), eh]
        refine ⟨this.1, fun h hh => ?_⟩
        rw [this.2 h hh]
        unfold rnv
        rw [r9 _ (by omega)]
    · have := h5 k hk
      unfold lfr lto at *
      rw [r1 242 (by omega), r1 243 (by omega)]
      exact this
    · rw [r1 244 (by omega), r1 245 (by omega)]
      exact h6 i hi
theorem c_rn111 (h : CAt σ T n N i) (hT : TR σ t E) (hr : ah_R σ 82 2 = some t) (h4 : nR E < 4) {nm : Nat} {vs : List Nat} (hl : vs.length ≤ 6) (hv : ∀ i, i < vs.length → vs.getD i 0 ≤ 99) (hrow : ∀ h, h < 6 → ah_I σ (t + 27 + nR E) h = nI (vs.getD h 0)) (hk : tS (tks T n i) ≠ 2) : ∃ τ, Fr (Xcl t) σ τ ∧ f_X7_readRain_111 82 (nI nm) σ = some (nI 1, τ) ∧ CAt τ T n N i ∧ TR τ t (eRai E nm vs) := by
  have hW := h.w
  have htn := hT.1
  have hTt : t = 2 ∨ t = 42 := htn
  have b0 : nC E ≤ 7 := hT.2.2.1.1.1.2
  have b1 : nS E ≤ 10 := hT.2.2.1.1.2.1.2
  have b2 : nP E ≤ 4 := hT.2.2.1.1.2.2.1.2
  have h8 : ah_I σ t 8 = nI (nR E) := hT.2.2.2.1.2.2.2.2.2.1
  have hkk := h.2.2.2.2.1
  refine ⟨ah_wI (ah_wI σ (t + 25) (nR E) (nI nm)) t 8 (nI (nR E + 1)), (Fr.rfl.wI (by unfold Xcl; omega)).wI (by unfold Xcl; omega), ?_, h.fr (X := fun x y => x = t + 25 ∨ x = t) ((Fr.rfl.wI (Or.inl rfl)).wI (Or.inr rfl)) (fun x y z q => by omega), ?_⟩
  · unfold f_X7_readRain_111
    have W2 := hW.wI (t + 25) (nR E) (nI nm)
    rw [gR_82_0 hW, bd_s, gI_83 hW, bd_s, if_neg (show ¬ ah_I σ 83 8 = (3 : Int32) from fun w => hk (hkk.num.mp w)), gR_82_2 hW, hr, bd_s, gR_t_9 hW htn, bd_s, bd_s, gI_t hW htn, h8, bd_s, sI_t25 hW htn h4, bd_s, gR_82_2 W2, ah_R_wI, hr, bd_s, gI_t W2 htn, rI_ne (by omega), h8, bd_s, l_1, zadd, pI_t W2 htn, bd_s, rz_1]
    rfl
  · refine TR_rai hT ((hW.wI _ _ _).wI _ _ _) h4 hl hv (fun a j z1 z2 => ?_) rI_eq ?_ (fun h hh => ?_)
    · rw [rI_ne (by omega), rI_ne (by unfold Tdm at z1; omega)]
    · rw [rI_ne (by omega), rI_eq]
    · rw [rI_ne (by omega), rI_ne (by omega)]; exact hrow h hh
theorem c_rn74 (hr0 : Tn t) (h4 : nR E < 4) {nm : Nat} : ∀ f fu σ i vs, vs.length + f = 6 → f < fu → 1 ≤ vs.length → CAt σ T n N i → TR σ t E → ah_R σ 82 2 = some t → (∀ i, i < vs.length → vs.getD i 0 ≤ 99) → (∀ h, h < 6 → ah_I σ (t + 27 + nR E) h = nI (vs.getD h 0)) → ∃ τ, Fr (Xcl t) σ τ ∧ CYo (f_X7_readRain_74 fu 82 (nI nm) (t + 27 + nR E) (nI vs.length) σ) τ T n N (sR2 (tks T n) f i vs).1 ∧ ((sR2 (tks T n) f i vs).1.2 = none → TR τ t (eRai E nm (sR2 (tks T n) f i vs).2)) := by
  have htn := hr0
  have hTt : t = 2 ∨ t = 42 := htn
  intro f
  induction f with
  | zero =>
    intro fu σ i vs hl hfu h1 h hT hr hv hrow
    obtain ⟨fu, rfl⟩ : ∃ q, fu = q + 1 := ⟨fu - 1, by omega⟩
    have hW := h.w
    have hkk := h.2.2.2.2.1
    show ∃ τ, Fr (Xcl t) σ τ ∧ CYo (f_X7_readRain_74_b _ _ _ _ _ _) τ T n N _ ∧ _
    unfold f_X7_readRain_74_b
    rw [if_pos (show (6 : Int32) ≤ nI vs.length from (show nI 6 ≤ nI vs.length by rw [le_nI (by omega) (by omega)]; omega))]
    by_cases z : tS (tks T n i) = 2
    · obtain ⟨τ, w1, w2, w3⟩ := c_fail h (f := 2)
      rw [show sR2 (tks T n) 0 i vs = ((i, some (2, i)), vs) from if_pos z]
      refine ⟨τ, w2.mono (fun a j z => Or.inl z), ⟨?_, w3⟩, fun w => nomatch w⟩
      unfold f_X7_readRain_111
      rw [gR_82_0 hW, bd_s, gI_83 hW, bd_s, if_pos (show ah_I σ 83 8 = (3 : Int32) from hkk.num.mpr z), show f_X7_fail 82 (2 : Int32) σ = some (nI 0, τ) from w1, bd_s]
      show (op_rz (nI 0)).map _ = _
      rw [rz_0]; rfl
    · rw [show sR2 (tks T n) 0 i vs = ((i, none), vs) from if_neg z]
      obtain ⟨τ, w1, w2, w3, w4⟩ := c_rn111 h hT hr h4 (nm := nm) (by omega) hv hrow z
      exact ⟨τ, w1, ⟨w2, w3⟩, fun _ => w4⟩
  | succ f ih =>
    intro fu σ i vs hl hfu h1 h hT hr hv hrow
    obtain ⟨fu, rfl⟩ : ∃ q, fu = q + 1 := ⟨fu - 1, by omega⟩
    have hW := h.w
    have hkk := h.2.2.2.2.1
    have b0 : nC E ≤ 7 := hT.2.2.1.1.1.2
    have b1 : nS E ≤ 10 := hT.2.2.1.1.2.1.2
    have b2 : nP E ≤ 4 := hT.2.2.1.1.2.2.1.2
    show ∃ τ, Fr (Xcl t) σ τ ∧ CYo (f_X7_readRain_74_b (f_X7_readRain_74 fu) _ _ _ _ _) τ T n N _ ∧ _
    unfold f_X7_readRain_74_b
    rw [if_neg (show ¬ (6 : Int32) ≤ nI vs.length from (show ¬ nI 6 ≤ nI vs.length by rw [le_nI (by omega) (by omega)]; omega)), gR_82_0 hW, bd_s, gI_83 hW, bd_s]
    by_cases z : tS (tks T n i) = 2
    · rw [if_pos (show ah_I σ 83 8 = (3 : Int32) from hkk.num.mpr z)]
      obtain ⟨σ1, d1, d2, d3⟩ := c_into h (a := t + 27 + nR E) (k := vs.length) (L := 6) (lo := 0) (hi := 99) (by omega) (by omega) (by omega) (by omega) (by omega) (fun σ hw => len_rrow hw htn h4) (fun σ v hw => sI_rrow hw htn h4 (by omega)) (fun σ hw => aI_rrow hw htn h4 (by omega))
      have g1 : Fr (Xcl t) σ σ1 := d1.mono (Xin_cl (by omega) (by omega))
      have eS : sNumS (tks T n) (i, none) 0 99 = if tS (tks T n i) = 2 then (if 0 ≤ tV (tks T n i) ∧ tV (tks T n i) ≤ 99 then (i + 1, none) else (i, some (2, i))) else (i, some (1, i)) := rfl
      have eN : sR2 (tks T n) (f + 1) i vs = if tS (tks T n i) = 2 then (if tV (tks T n i) ≤ 99 then (if tS (tks T n (i + 1)) = 2 then sRn (tks T n) f (i + 1) (vs ++ [tV (tks T n i)]) else ((i + 1, none), vs ++ [tV (tks T n i)])) else ((i, some (2, i)), vs)) else ((i, some (1, i)), vs) := if_pos z
      rw [eN, if_pos z]
      rw [eS, if_pos z] at d2 d3
      by_cases y : tV (tks T n i) ≤ 99
      · rw [if_pos ⟨by omega, y⟩] at d2 d3
        rw [if_pos y]
        obtain ⟨d2, d4⟩ := d2
        have hval := d3 rfl
        rw [show sNumV (tks T n) (i, none) 0 99 = tV (tks T n i) from if_pos ⟨z, by omega, y⟩] at hval
        have hlen : (vs ++ [tV (tks T n i)]).length = vs.length + 1 := by simp
        have hg : ∀ j, (vs ++ [tV (tks T n i)]).getD j 0 = if j = vs.length then tV (tks T n i) else vs.getD j 0 := fun j => by
          by_cases q : j = vs.length
          · subst q; rw [if_pos rfl]; simp
          · rw [if_neg q, List.getD_eq_getElem?_getD, List.getD_eq_getElem?_getD]
            by_cases q2 : j < vs.length
            · rw [List.getElem?_append_left q2]
            · rw [List.getElem?_eq_none (by omega), List.getElem?_eq_none (by omega)]
        have T1 : TR σ1 t E := hT.fx d1 (fun a j z q => q.elim (fun q => Tdm_rn hT z (Or.inl q)) (fun q => by unfold Tdm at z; omega))
        have r1 : ah_R σ1 82 2 = some t := (d1.R (Or.inr (by unfold Xin Xrn; omega))).trans hr
        obtain ⟨τ, u1, u2, u3⟩ := ih fu σ1 (i + 1) (vs ++ [tV (tks T n i)]) (by omega) (by omega) (by omega) d4 T1 r1 (fun j hj => by
          rw [hg]
          split
          · exact y
          · exact hv j (by omega)) (fun j hj => by
          rw [hg]
          split
          · rename_i q; rw [q]; exact hval
          · rw [d1.I (by unfold Xin Xrn; omega)]; exact hrow j hj)
        rw [hlen] at u2
        rw [show f_X7_readInto 82 (t + 27 + nR E) (nI vs.length) (0 : Int32) (99 : Int32) σ = some (nI 1, σ1) from d2, bd_s, if_neg (show ¬ nI 1 = (0 : Int32) by decide), l_1, zadd]
        exact ⟨τ, g1.trans u1, u2, u3⟩
      · rw [if_neg (by omega)] at d2 d3
        rw [if_neg y]
        obtain ⟨d2, d4⟩ := d2
        rw [show f_X7_readInto 82 (t + 27 + nR E) (nI vs.length) (0 : Int32) (99 : Int32) σ = some (nI 0, σ1) from d2, bd_s, if_pos (show nI 0 = (0 : Int32) from rfl), l_0, rz_0]
        exact ⟨σ1, g1, ⟨rfl, d4⟩, fun w => nomatch w⟩
    · rw [if_neg (show ¬ ah_I σ 83 8 = (3 : Int32) from fun w => z (hkk.num.mp w)), show sR2 (tks T n) (f + 1) i vs = ((i, none), vs) from if_neg z]
      obtain ⟨τ, w1, w2, w3, w4⟩ := c_rn111 h hT hr h4 (nm := nm) (by omega) hv hrow z
      exact ⟨τ, w1, ⟨w2, w3⟩, fun _ => w4⟩
theorem c_raiL (h : CAt σ T n N i) (hv : ∀ i, TVb (tks T n i)) (hT : TR σ t E) (hr : ah_R σ 82 2 = some t) (h4 : tS (tks T n i) ≠ 4) (hr4 : nR E < 4) : ∃ τ, Fr (Xcl t) σ τ ∧ CYo (f_X7_readRain 82 σ) τ T n N (bRai (tks T n) E (i + 1, none)).1 ∧ ((bRai (tks T n) E (i + 1, none)).1.2 = none → TR τ t (bRai (tks T n) E (i + 1, none)).2) := by
  have hW := h.w
  have htn := hT.1
  have hTt : t = 2 ∨ t = 42 := htn
  have b0 : nC E ≤ 7 := hT.2.2.1.1.1.2
  have b1 : nS E ≤ 10 := hT.2.2.1.1.2.1.2
  have b2 : nP E ≤ 4 := hT.2.2.1.1.2.2.1.2
  have hC0 : ah_I σ t 8 = nI (nR E) := hT.2.2.2.1.2.2.2.2.2.1
  obtain ⟨σ1, w1, w2, w3⟩ := c_step h h4
  have g1 : Fr (Xcl t) σ σ1 := w2.mono (fun a j z => Or.inl (Xs8_r a j z))
  have T1 := hT.rn (w2.mono Xs8_r)
  have r1 : ah_R σ1 82 2 = some t := (w2.R (Or.inr (by unfold Xs8; omega))).trans hr
  have W1 := w3.w
  obtain ⟨σ2, a1, a2⟩ := c_nam w3 T1 r1 (w := 1) (a := 239) (m := nR E) (by omega)
  have r2 : ah_R σ2 82 2 = some t := (a1.R (Or.inr (by unfold Xrn; omega))).trans r1
  have g2 : Fr (Xcl t) σ σ2 := g1.trans (a1.mono (fun a j z => Or.inl z))
  have T2 := T1.rn a1
  have hC2 : ah_I σ2 t 8 = nI (nR E) := T2.2.2.2.1.2.2.2.2.2.1
  have hnm : sNamV (tks T n) (i + 1, none) (E 239) (nR E) < 2147483648 := by
    show (if _ then _ else 0) < 2147483648
    split
    · rename_i z; have := (hv (i + 1)).2.1 z.1; omega
    · omega
  unfold bRai
  generalize hS1 : sNamS (tks T n) (i + 1, none) (E 239) (nR E) = S1 at *
  generalize hV1 : sNamV (tks T n) (i + 1, none) (E 239) (nR E) = V1 at *
  unfold f_X7_readRain f_X7_readRain_0
  rw [ck_82 hW, gR_82_2 hW, hr, bd_s, gI_t hW htn, hC0, bd_s, if_pos (show nI (nR E) < (4 : Int32) from (show nI (nR E) < nI 4 by rw [lt_nI (by omega) (by omega)]; exact hr4)), gR_82_0 hW, bd_s, w1, bd_s]
  obtain ⟨i1, _ | x1⟩ := S1
  · obtain ⟨a2, a3⟩ := a2
    have W2 := a3.w
    have fw := c_fillI (σ := σ2) (nI 0) W2 (S0_rrow htn hr4) (by omega)
    have c3 := a3.fr (X := fun x y => x = t + 27 + nR E) (τ := ah_fI σ2 (t + 27 + nR E) 0 6 (nI 0)) (Fr.rfl.fI (fun _ _ _ => rfl)) (fun x y z q => by omega)
    have cT : TR (ah_fI σ2 (t + 27 + nR E) 0 6 (nI 0)) t E := T2.fx (X := fun x y => x = t + 27 + nR E) (Fr.rfl.fI (fun _ _ _ => rfl)) (fun a j z q => by unfold Tdm at z; omega)
    have gc : Fr (Xcl t) σ (ah_fI σ2 (t + 27 + nR E) 0 6 (nI 0)) := g2.fI (fun j _ _ => by unfold Xcl; omega)
    rw [show f_X7_readNewName 82 (1 : Int32) σ1 = some (nI V1, σ2) from a2, bd_s, if_neg (show ¬ nI V1 = (-1 : Int32) from nI_ne1 hnm), gR_82_2 W2, r2, bd_s, gR_t_10 W2 htn, bd_s, bd_s, gI_t W2 htn, hC2, bd_s, aR_rrow W2 htn hr4, bd_s, show f_J7_fill_53178 (t + 27 + nR E) (0 : Int32) σ2 = some (ah_fI σ2 (t + 27 + nR E) 0 6 (nI 0)) from fw, bd_s]
    obtain ⟨σ3, d1, d2, d3⟩ := c_into c3 (a := t + 27 + nR E) (k := 0) (L := 6) (lo := 0) (hi := 99) (by omega) (by omega) (by omega) (by omega) (by omega) (fun σ hw => len_rrow hw htn hr4) (fun σ v hw => sI_rrow hw htn hr4 (by omega)) (fun σ hw => aI_rrow hw htn hr4 (by omega))
    have g3 := gc.trans (d1.mono (Xin_cl (t := t) (by omega) (by omega)))
    have eS : sNumS (tks T n) (i1, none) 0 99 = if tS (tks T n i1) = 2 then (if 0 ≤ tV (tks T n i1) ∧ tV (tks T n i1) ≤ 99 then (i1 + 1, none) else (i1, some (2, i1))) else (i1, some (1, i1)) := rfl
    have eN : sRai (tks T n) (i1, none) = if tS (tks T n i1) = 2 then (if tV (tks T n i1) ≤ 99 then sR2 (tks T n) 5 (i1 + 1) [tV (tks T n i1)] else ((i1, some (2, i1)), [])) else ((i1, some (1, i1)), []) := rfl
    rw [eN]
    by_cases z : tS (tks T n i1) = 2
    · rw [if_pos z]
      rw [eS, if_pos z] at d2 d3
      by_cases y : tV (tks T n i1) ≤ 99
      · rw [if_pos y]
        rw [if_pos ⟨by omega, y⟩] at d2 d3
        obtain ⟨d2, d4⟩ := d2
        have hval := d3 rfl
        rw [show sNumV (tks T n) (i1, none) 0 99 = tV (tks T n i1) from if_pos ⟨z, by omega, y⟩] at hval
        have T3 : TR σ3 t E := cT.fx d1 (fun a j z q => q.elim (fun q => Tdm_rn hT z (Or.inl q)) (fun q => by unfold Tdm at z; omega))
        have r3 : ah_R σ3 82 2 = some t := (d1.R (Or.inr (by unfold Xin Xrn; omega))).trans r2
        obtain ⟨τ, u1, u2, u3⟩ := c_rn74 (T := T) (n := n) (N := N) (E := E) htn hr4 (nm := V1) 5 5000 σ3 (i1 + 1) [tV (tks T n i1)] rfl (by omega) (by simp) d4 T3 r3 (fun j hj => by
          have hj : j < 1 := hj
          rw [show j = 0 by omega]; exact y) (fun j hj => by
          cases j with
          | zero => exact hval
          | succ j =>
            rw [d1.I (by unfold Xin Xrn; omega), I_fI, if_pos ⟨rfl, by omega, hj⟩]
            rfl)
        rw [show f_X7_readInto 82 (t + 27 + nR E) (0 : Int32) (0 : Int32) (99 : Int32) (ah_fI σ2 (t + 27 + nR E) 0 6 (nI 0)) = some (nI 1, σ3) from d2, bd_s, if_neg (show ¬ nI 1 = (0 : Int32) by decide)]
        exact ⟨τ, g3.trans u1, u2, u3⟩
      · rw [if_neg y]
        rw [if_neg (by omega)] at d2 d3
        obtain ⟨d2, d4⟩ := d2
        rw [show f_X7_readInto 82 (t + 27 + nR E) (0 : Int32) (0 : Int32) (99 : Int32) (ah_fI σ2 (t + 27 + nR E) 0 6 (nI 0)) = some (nI 0, σ3) from d2, bd_s, if_pos (show nI 0 = (0 : Int32) from rfl), l_0, rz_0]
        exact ⟨σ3, g3, ⟨rfl, d4⟩, fun w => nomatch w⟩
    · rw [if_neg z]
      rw [eS, if_neg z] at d2 d3
      obtain ⟨d2, d4⟩ := d2
      rw [show f_X7_readInto 82 (t + 27 + nR E) (0 : Int32) (0 : Int32) (99 : Int32) (ah_fI σ2 (t + 27 + nR E) 0 6 (nI 0)) = some (nI 0, σ3) from d2, bd_s, if_pos (show nI 0 = (0 : Int32) from rfl), l_0, rz_0]
      exact ⟨σ3, g3, ⟨rfl, d4⟩, fun w => nomatch w⟩
  · obtain ⟨a2, a3⟩ := a2
    rw [show f_X7_readNewName 82 (1 : Int32) σ1 = some (mI 1, σ2) from a2, bd_s, if_pos (show mI 1 = (-1 : Int32) from rfl), l_0, rz_0]
    exact ⟨σ2, g2, ⟨rfl, a3⟩, fun w => nomatch w⟩
end
