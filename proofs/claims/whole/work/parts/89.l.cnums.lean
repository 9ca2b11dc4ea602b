/-! LINES OF THE CLASS: river, limits, cart -/
section
variable {σ τ : ah_H} {T : Nat → Nat} {n N i t : Nat} {s : LnS} {E E' : DD}
theorem TR_num (h : TR σ t E) (hW : Wf τ) (hM : MT E') (hrow : ∀ x, 228 ≤ x → E' x = E x) (h0 : E' 227 0 = E 227 0) (h1 : E' 227 1 = E 227 1) (h2 : E' 227 2 = E 227 2) (h3 : E' 227 3 = E 227 3) (h11 : E' 227 11 = E 227 11) (e : ∀ a j, Tdm E t a j → ¬ (a = t ∧ (j = 2 ∨ j = 3 ∨ j = 13) ∨ a = t + 31 ∨ a = t + 32) → ah_I τ a j = ah_I σ a j) (f2 : ah_I τ t 2 = E' 227 4) (f3 : ah_I τ t 3 = E' 227 5) (f13 : ah_I τ t 13 = nI (ct E')) (g0 : ah_I τ (t + 31) 0 = nI (lf E')) (g1 : ah_I τ (t + 31) 1 = nI (mf E')) (k0 : ah_I τ (t + 32) 0 = nI (lc E')) (k1 : ah_I τ (t + 32) 1 = nI (mc E')) : TR τ t E' := by
  have n1 : nC E' = nC E := by unfold nC; rw [h0]
  have n2 : nS E' = nS E := by unfold nS; rw [h1]
  have n3 : nP E' = nP E := by unfold nP; rw [h2]
  have n4 : nR E' = nR E := by unfold nR; rw [h3]
  have n5 : nK E' = nK E := by unfold nK; rw [h11]
  obtain ⟨ht, hw, hM0, hF, hRw⟩ := h
  have b0 : nC E ≤ 7 := hM0.1.1.2
  have b1 : nS E ≤ 10 := hM0.1.2.1.2
  have b2 : nP E ≤ 4 := hM0.1.2.2.1.2
  have b3 : nR E ≤ 4 := hM0.1.2.2.2.1.2
  obtain ⟨t1, t2, t3, t4, t5, t6, t7, t8, t9, t10, t11, t12⟩ := hF
  refine ⟨ht, hW, hM, ?_, ?_⟩
  · unfold TF
    rw [n1, n2, n3, n4, n5]
    exact ⟨(e t 0 (by unfold Tdm; omega) (by omega)).trans t1, f2, f3, (e t 4 (by unfold Tdm; omega) (by omega)).trans t4, (e t 6 (by unfold Tdm; omega) (by omega)).trans t5, (e t 8 (by unfold Tdm; omega) (by omega)).trans t6, f13, g0, g1, k0, k1, (e (t + 33) 0 (by unfold Tdm; omega) (by omega)).trans t12⟩
  · obtain ⟨h1, h2, h3, h4, h5, h6⟩ := hRw
    unfold TRows
    rw [n1, n2, n3, n4, n5]
    refine ⟨fun c hc => ?_, fun s hs => ?_, fun p hp => ?_, fun q hq => ?_, fun k hk => ?_, fun i hi => ?_⟩
    · have := h1 c hc
      unfold hgt are rck at *
      rw [hrow 229 (by omega), hrow 230 (by omega), hrow 231 (by omega), hrow 228 (by omega), e _ 0 (by unfold Tdm; omega) (by omega), e _ 1 (by unfold Tdm; omega) (by omega), e _ 2 (by unfold Tdm; omega) (by omega), e _ 3 (by unfold Tdm; omega) (by omega)]
      exact this
    · have := h2 s hs
      unfold sA sB len hrs rsk at *
      rw [hrow 232 (by omega), hrow 233 (by omega), hrow 234 (by omega), hrow 235 (by omega), hrow 236 (by omega), e _ 0 (by unfold Tdm; omega) (by omega), e _ 1 (by unfold Tdm; omega) (by omega), e _ 2 (by unfold Tdm; omega) (by omega), e _ 3 (by unfold Tdm; omega) (by omega), e _ 4 (by unfold Tdm; omega) (by omega)]
      exact this
    · have := h3 p hp
      unfold wid pri at *
      rw [hrow 237 (by omega), hrow 238 (by omega), e _ 0 (by unfold Tdm; omega) (by omega), e _ 1 (by unfold Tdm; omega) (by omega)]
      exact this
    · have := h4 q hq
      unfold rnh rnv at *
      rw [hrow 239 (by omega), hrow 240 (by omega), hrow 241 (by omega), e _ q (by unfold Tdm; omega) (by omega)]
      refine ⟨this.1, fun h hh => ?_⟩
      rw [e _ h (by unfold Tdm; omega) (by omega)]
      exact this.2 h hh
    · have := h5 k hk
      unfold lfr lto at *
      rw [hrow 242 (by omega), hrow 243 (by omega), e _ k (by unfold Tdm; omega) (by omega), e _ k (by unfold Tdm; omega) (by omega)]
      exact this
    · rw [hrow 244 (by omega), hrow 245 (by omega), e _ i (by unfold Tdm; omega) (by omega), e _ i (by unfold Tdm; omega) (by omega)]
      exact h6 i hi
/-- told once -/
def Xto (t a j : Nat) : Prop := Xrn a j ∨ a = t ∧ j = 14
theorem c_tell (h : CAt σ T n N i) (htn : Tn t) (hr : ah_R σ 82 2 = some t) (h4 : tS (tks T n i) ≠ 4) {m w : Nat} (hm : ah_I σ t 14 = nI m) (hmb : m < 2 ^ 24) (hw : w ≤ 8) (hb : m.testBit w ≠ true) : ∃ τ, f_X7_tellOnce 82 (nI w) σ = some (nI 1, τ) ∧ Fr (Xto t) σ τ ∧ CAt τ T n N (i + 1) ∧ ah_I τ t 14 = nI (m ||| 2 ^ w) := by
  have hW := h.w
  have hTt : t = 2 ∨ t = 42 := htn
  have h1 := h.fr (X := fun x y => x = t ∧ y = 14) (τ := ah_wI σ t 14 (nI (m ||| 2 ^ w))) (Fr.rfl.wI ⟨rfl, rfl⟩) (fun x y z q => by omega)
  obtain ⟨τ, w1, w2, w3⟩ := c_step h1 h4
  have hmb2 : m < 2147483648 := by omega
  have zb := z_bit (m := m) (c := w) hmb2 (by omega)
  refine ⟨τ, ?_, (Fr.wI (Fr.rfl (X := Xto t)) (Or.inr ⟨rfl, rfl⟩)).trans (w2.mono (fun a j z => Or.inl (Xs8_r a j z))), w3, by rw [w2.I (by unfold Xs8; omega), rI_eq]⟩
  unfold f_X7_tellOnce f_X7_tellOnce_0
  simp only [to_bq, l_0, l_1, l_2, l_3, l_4, l_5, l_6, l_7, l_8, l_9, l_10, l_11, l_12, l_13, l_14, l_15, l_16, l_17, l_18, l_19, l_20, l_21, l_22, l_23, l_24, l_25, l_26, l_27, l_28, l_29, l_30, l_31, l_32, l_40, l_41, l_42, l_43, l_44, l_45, l_46, l_47, l_48, l_49, l_50, l_51, l_52, l_53, l_54, l_55, l_56, l_57, l_58, l_59, l_60, l_61, l_62, l_63, l_64, l_72, l_97, l_99, l_100, l_104, l_120, l_122, l_128, l_140, l_255, l_256, l_257, l_258, l_260, l_261, l_262, l_364, l_680, l_700, l_701, l_840, l_999, l_1023, l_1024, l_9999, l_10000, l_1000000, lm]
  rw [ck_82 hW]
  simp (disch := first | (with_reducible assumption) | omega | exact ⟨by omega, by omega⟩ | ((with_reducible first | apply Wf.wI | apply Wf.wL | apply Wf.fL | apply Wf.fI | apply Wf.fr); (repeat (with_reducible first | assumption | apply Wf.wI | apply Wf.wL | apply Wf.fL | apply Wf.fI | apply Wf.fr)))) only [ck_82, gI_82, gL_82, pI_82, pZ0_82, pZ1_82, pL_82, gR_82_0, gR_82_1, pR_82_2, gR_82_2, bq_n, bd_s, mp_s, rz_0, rz_1, bI_rz, hr, gI_t, hm]
  rw [if_pos (by rw [zb]; exact hb), z_set (m := m) (c := w) (by omega)]
  simp (disch := first | (with_reducible assumption) | omega | exact ⟨by omega, by omega⟩ | ((with_reducible first | apply Wf.wI | apply Wf.wL | apply Wf.fL | apply Wf.fI | apply Wf.fr); (repeat (with_reducible first | assumption | apply Wf.wI | apply Wf.wL | apply Wf.fL | apply Wf.fI | apply Wf.fr)))) only [ck_82, gI_82, gL_82, pI_82, pZ0_82, pZ1_82, pL_82, gR_82_0, gR_82_1, pR_82_2, gR_82_2, bq_n, bd_s, mp_s, rz_0, rz_1, bI_rz, pI_t]
  rw [w1]
  simp only [bq_n, bd_s, mp_s, rz_0, rz_1, bI_rz]
theorem c_tellF (h : CAt σ T n N i) (htn : Tn t) (hr : ah_R σ 82 2 = some t) {m w : Nat} (hm : ah_I σ t 14 = nI m) (hmb : m < 2 ^ 24) (hw : w ≤ 8) (hb : m.testBit w = true) : ∃ τ, f_X7_tellOnce 82 (nI w) σ = some (nI 0, τ) ∧ Fr Xrn σ τ ∧ CFl τ T n 3 i := by
  have hW := h.w
  have hmb2 : m < 2147483648 := by omega
  have zb := z_bit (m := m) (c := w) hmb2 (by omega)
  obtain ⟨τ, w1, w2, w3⟩ := c_fail h (f := 3)
  refine ⟨τ, ?_, w2, w3⟩
  unfold f_X7_tellOnce f_X7_tellOnce_0
  simp only [to_bq, l_0, l_1, l_2, l_3, l_4, l_5, l_6, l_7, l_8, l_9, l_10, l_11, l_12, l_13, l_14, l_15, l_16, l_17, l_18, l_19, l_20, l_21, l_22, l_23, l_24, l_25, l_26, l_27, l_28, l_29, l_30, l_31, l_32, l_40, l_41, l_42, l_43, l_44, l_45, l_46, l_47, l_48, l_49, l_50, l_51, l_52, l_53, l_54, l_55, l_56, l_57, l_58, l_59, l_60, l_61, l_62, l_63, l_64, l_72, l_97, l_99, l_100, l_104, l_120, l_122, l_128, l_140, l_255, l_256, l_257, l_258, l_260, l_261, l_262, l_364, l_680, l_700, l_701, l_840, l_999, l_1023, l_1024, l_9999, l_10000, l_1000000, lm]
  rw [ck_82 hW]
  simp (disch := first | (with_reducible assumption) | omega | exact ⟨by omega, by omega⟩ | ((with_reducible first | apply Wf.wI | apply Wf.wL | apply Wf.fL | apply Wf.fI | apply Wf.fr); (repeat (with_reducible first | assumption | apply Wf.wI | apply Wf.wL | apply Wf.fL | apply Wf.fI | apply Wf.fr)))) only [ck_82, gI_82, gL_82, pI_82, pZ0_82, pZ1_82, pL_82, gR_82_0, gR_82_1, pR_82_2, gR_82_2, bq_n, bd_s, mp_s, rz_0, rz_1, bI_rz, hr, gI_t, hm]
  rw [if_neg (by rw [zb]; exact fun z => z hb), w1]
  simp only [bq_n, bd_s, mp_s, rz_0, rz_1, bI_rz]
def Xcm (t a j : Nat) : Prop := Xrn a j ∨ a = t ∧ j ≤ 14 ∨ t < a ∧ a ≤ t + 32
theorem Xto_m : ∀ a j, Xto t a j → Xcm t a j := fun a j z => z.elim Or.inl (fun z => Or.inr (Or.inl ⟨z.1, by omega⟩))
theorem Xrn_m : ∀ a j, Xrn a j → Xcm t a j := fun a j z => Or.inl z
theorem TR.to (h : TR σ t E) (g : Fr (Xto t) σ τ) : TR τ t E := by
  have hT : t = 2 ∨ t = 42 := h.1
  have b0 : nC E ≤ 7 := h.2.2.1.1.1.2
  have b1 : nS E ≤ 10 := h.2.2.1.1.2.1.2
  have b2 : nP E ≤ 4 := h.2.2.1.1.2.2.1.2
  have b3 : nR E ≤ 4 := h.2.2.1.1.2.2.2.1.2
  exact h.fx g (fun a j z q => by unfold Xto Xrn at q; unfold Tdm at z; omega)
theorem Tdm_rn (h : TR σ t E) {a j : Nat} (z : Tdm E t a j) : ¬ Xto t a j := fun q => by
  have hT : t = 2 ∨ t = 42 := h.1
  have b0 : nC E ≤ 7 := h.2.2.1.1.1.2
  have b1 : nS E ≤ 10 := h.2.2.1.1.2.1.2
  have b2 : nP E ≤ 4 := h.2.2.1.1.2.2.1.2
  have b3 : nR E ≤ 4 := h.2.2.1.1.2.2.2.1.2
  unfold Xto Xrn at q; unfold Tdm at z; omega
theorem c_carL (h : CAt σ T n N i) (hT : TR σ t E) (hr : ah_R σ 82 2 = some t) (h4 : tS (tks T n i) ≠ 4) {m : Nat} (hm : ah_I σ t 14 = nI m) (hmb : m < 2 ^ 24) (hb : m.testBit 8 ≠ true) : ∃ τ, Fr (Xcm t) σ τ ∧ CYo (f_X7_readCart 82 σ) τ T n N (bCar (tks T n) E (i + 1, none)).1 ∧ ((bCar (tks T n) E (i + 1, none)).1.2 = none → TR τ t (bCar (tks T n) E (i + 1, none)).2 ∧ ah_I τ t 14 = nI (m ||| 2 ^ 8)) := by
  have hW := h.w
  have htn := hT.1
  have hTt : t = 2 ∨ t = 42 := htn
  obtain ⟨σ1, w1, w2, w3, w4⟩ := c_tell h htn hr h4 hm hmb (w := 8) (by omega) hb
  have g1 : Fr (Xcm t) σ σ1 := w2.mono Xto_m
  have T1 := hT.to w2
  have r1 : ah_R σ1 82 2 = some t := (w2.R (Or.inr (by unfold Xto Xrn; omega))).trans hr
  have W1 := w3.w
  obtain ⟨σ2, a1, a2⟩ := c_num w3 (lo := 0) (hi := 99) (by omega) (by omega)
  have r2 : ah_R σ2 82 2 = some t := (a1.R (Or.inr (by unfold Xrn; omega))).trans r1
  have g2 : Fr (Xcm t) σ σ2 := g1.trans (a1.mono Xrn_m)
  have hx := fun z => sNum_n (k := tks T n) (s := (i + 1, none)) (lo := 0) (hi := 99) z
  unfold bCar
  generalize hS1 : sNumS (tks T n) (i + 1, none) 0 99 = S1 at *
  generalize hV1 : sNumV (tks T n) (i + 1, none) 0 99 = V1 at *
  have head : f_X7_readCart 82 σ = (f_X7_readNumber 82 (nI 0) (nI 99) σ1).bind fun r3 => (op_pI 9 13 r3.2 t r3.1).bind fun σ4 => (op_gR 7 2 σ4 82).bind fun v5 => (op_gI 9 13 σ4 v5).bind fun v6 => if v6 = mI 1 then ((op_rz (nI 0)).map fun q => (q, σ4)) else ((op_rz (nI 1)).map fun q => (q, σ4)) := by
    unfold f_X7_readCart f_X7_readCart_0
    rw [ck_82 hW, show f_X7_tellOnce 82 (8 : Int32) σ = some (nI 1, σ1) from w1, bd_s, if_neg (show ¬ nI 1 = (0 : Int32) by decide), gR_82_2 W1, r1, bd_s]
    rfl
  rw [head]
  have tail : ∀ v, Wf σ2 → (op_pI 9 13 σ2 t v).bind (fun σ4 => (op_gR 7 2 σ4 82).bind fun v5 => (op_gI 9 13 σ4 v5).bind fun v6 => if v6 = mI 1 then ((op_rz (nI 0)).map fun q => (q, σ4)) else ((op_rz (nI 1)).map fun q => (q, σ4))) = some (if v = mI 1 then nI 0 else nI 1, ah_wI σ2 t 13 v) := fun v hw => by
    rw [pI_t hw htn, bd_s, gR_82_2 (hw.wI _ _ _), ah_R_wI, r2, bd_s, gI_t (hw.wI _ _ _) htn, bd_s, rI_eq]
    split
    · rw [rz_0]; rfl
    · rw [rz_1]; rfl
  obtain ⟨i1, _ | x1⟩ := S1
  · obtain ⟨a2, a3⟩ := a2
    obtain ⟨-, -, -, q1, -, q2⟩ := hx rfl
    have hV : V1 ≤ 99 := by rw [q2]; exact q1
    rw [a2, bd_s, tail _ a3.w, if_neg (nI_ne1 (by omega))]
    refine ⟨_, g2.wI (by unfold Xcm; omega), ⟨rfl, a3.fr (X := fun x y => x = t ∧ y = 13) (Fr.rfl.wI ⟨rfl, rfl⟩) (fun x y z q => by omega)⟩, fun _ => ⟨?_, ?_⟩⟩
    · have keep : ∀ a j, Tdm E t a j → ¬ (a = t ∧ j = 13) → ah_I (ah_wI σ2 t 13 (nI V1)) a j = ah_I σ a j := fun a j z1 z2 => by
        rw [rI_ne (by omega), a1.I (fun q => Tdm_rn hT z1 (Or.inl q)), w2.I (Tdm_rn hT z1)]
      obtain ⟨t1, t2, t3, t4, t5, t6, t7, t8, t9, t10, t11, t12⟩ := hT.2.2.2.1
      have o : ∀ j, j ≠ 10 → eCar E V1 227 j = E 227 j := fun j h => up_j h
      show TR (ah_wI σ2 t 13 (nI V1)) t (eCar E V1)
      refine TR_num hT (a3.w.wI _ _ _) (MT_car hT.2.2.1 hV) (fun x hx => up_r (by omega)) (o 0 (by omega)) (o 1 (by omega)) (o 2 (by omega)) (o 3 (by omega)) (o 11 (by omega)) (fun a j z1 z2 => keep a j z1 (by omega)) ?_ ?_ ?_ ?_ ?_ ?_ ?_
      · rw [o _ (by omega), keep t 2 (by unfold Tdm; omega) (by omega)]; exact t2
      · rw [o _ (by omega), keep t 3 (by unfold Tdm; omega) (by omega)]; exact t3
      · rw [rI_eq]; unfold ct eCar; rw [up_e, ix_nI (by omega)]
      · unfold lf; rw [o _ (by omega), keep _ 0 (by unfold Tdm; omega) (by omega)]; exact t8
      · unfold mf; rw [o _ (by omega), keep _ 1 (by unfold Tdm; omega) (by omega)]; exact t9
      · unfold lc; rw [o _ (by omega), keep _ 0 (by unfold Tdm; omega) (by omega)]; exact t10
      · unfold mc; rw [o _ (by omega), keep _ 1 (by unfold Tdm; omega) (by omega)]; exact t11
    · rw [rI_ne (by omega), a1.I (by unfold Xrn; omega)]; exact w4
  · obtain ⟨a2, a3⟩ := a2
    rw [a2, bd_s, tail _ a3.1, if_pos rfl]
    exact ⟨_, g2.wI (by unfold Xcm; omega), ⟨rfl, a3.fr (X := fun x y => x = t ∧ y = 13) (Fr.rfl.wI ⟨rfl, rfl⟩) (by omega)⟩, fun w => nomatch w⟩
theorem c_rivL (h : CAt σ T n N i) (hT : TR σ t E) (hr : ah_R σ 82 2 = some t) (h4 : tS (tks T n i) ≠ 4) {m : Nat} (hm : ah_I σ t 14 = nI m) (hmb : m < 2 ^ 24) (hb : m.testBit 1 ≠ true) : ∃ τ, Fr (Xcm t) σ τ ∧ CYo (f_X7_readRiver 82 σ) τ T n N (bRiv (tks T n) E (i + 1, none)).1 ∧ ((bRiv (tks T n) E (i + 1, none)).1.2 = none → TR τ t (bRiv (tks T n) E (i + 1, none)).2 ∧ ah_I τ t 14 = nI (m ||| 2 ^ 1)) := by
  have hW := h.w
  have htn := hT.1
  have hTt : t = 2 ∨ t = 42 := htn
  have b0 : nC E ≤ 7 := hT.2.2.1.1.1.2
  obtain ⟨σ1, w1, w2, w3, w4⟩ := c_tell h htn hr h4 hm hmb (w := 1) (by omega) hb
  have g1 : Fr (Xcm t) σ σ1 := w2.mono Xto_m
  have T1 := hT.to w2
  have r1 : ah_R σ1 82 2 = some t := (w2.R (Or.inr (by unfold Xto Xrn; omega))).trans hr
  have W1 := w3.w
  obtain ⟨σ2, a1, a2⟩ := c_corN w3 T1 r1
  have r2 : ah_R σ2 82 2 = some t := (a1.R (Or.inr (by unfold Xrn; omega))).trans r1
  have g2 : Fr (Xcm t) σ σ2 := g1.trans (a1.mono Xrn_m)
  have hcv := fun z => (sCor_v (k := tks T n) (s := (i + 1, none)) (g := E 228) b0 z).1
  have hgo := fun z => sGo_n (s := sCorS (tks T n) (i + 1, none) (E 228) (nC E)) z
  have head : f_X7_readRiver 82 σ = (f_X7_readCornerName 82 σ1).bind fun r3 => (op_pI 9 2 r3.2 t r3.1).bind fun σ4 => (op_gR 7 2 σ4 82).bind fun v5 => (op_gI 9 2 σ4 v5).bind fun v6 => if v6 = mI 1 then ((op_rz (nI 0)).map fun q => (q, σ4)) else ((op_gR 7 2 σ4 82).bind fun v7 => (f_X7_readNumber 82 (nI 0) (nI 999) σ4).bind fun r8 => (op_pI 9 3 r8.2 v7 r8.1).bind fun σ9 => (op_gR 7 2 σ9 82).bind fun v10 => (op_gI 9 3 σ9 v10).bind fun v11 => if v11 = mI 1 then ((op_rz (nI 0)).map fun q => (q, σ9)) else ((op_rz (nI 1)).map fun q => (q, σ9))) := by
    unfold f_X7_readRiver f_X7_readRiver_0
    rw [ck_82 hW, show f_X7_tellOnce 82 (1 : Int32) σ = some (nI 1, σ1) from w1, bd_s, if_neg (show ¬ nI 1 = (0 : Int32) by decide), gR_82_2 W1, r1, bd_s]
    rfl
  rw [head]
  unfold bRiv
  generalize hV1 : sCorV (tks T n) (i + 1, none) (E 228) (nC E) = V1 at *
  cases hS1 : sGo (sCorS (tks T n) (i + 1, none) (E 228) (nC E)) with
  | mk i1 o1 =>
  rw [hS1] at a2
  cases o1 with
  | some x1 =>
    obtain ⟨a2, a3⟩ := a2
    have W2 := a3.1
    rw [a2, bd_s, pI_t W2 htn, bd_s, gR_82_2 (W2.wI _ _ _), ah_R_wI, r2, bd_s, gI_t (W2.wI _ _ _) htn, bd_s, rI_eq, if_pos rfl, rz_0]
    exact ⟨_, g2.wI (by unfold Xcm; omega), ⟨rfl, a3.fr (X := fun x y => x = t ∧ y = 2) (Fr.rfl.wI ⟨rfl, rfl⟩) (by omega)⟩, fun w => nomatch w⟩
  | none =>
    obtain ⟨a2, a3⟩ := a2
    have W2 := a3.w
    have hV : V1 < nC E := hcv (by have := (hgo (by rw [hS1])).1; rw [this])
    have b3 := a3.fr (X := fun x y => x = t ∧ y = 2) (τ := ah_wI σ2 t 2 (nI V1)) (Fr.rfl.wI ⟨rfl, rfl⟩) (fun x y z q => by omega)
    obtain ⟨σ3, c1, c2⟩ := c_num b3 (lo := 0) (hi := 999) (by omega) (by omega)
    have r3 : ah_R σ3 82 2 = some t := (c1.R (Or.inr (by unfold Xrn; omega))).trans ((ah_R_wI _ _ _ _ _ _).trans r2)
    have g3 : Fr (Xcm t) σ σ3 := (g2.wI (by unfold Xcm; omega)).trans (c1.mono Xrn_m)
    have hx := fun z => sNum_n (k := tks T n) (s := (i1, none)) (lo := 0) (hi := 999) z
    rw [a2, bd_s, pI_t W2 htn, bd_s, gR_82_2 (W2.wI _ _ _), ah_R_wI, r2, bd_s, gI_t (W2.wI _ _ _) htn, bd_s, rI_eq, if_neg (nI_ne1 (by omega)), bd_s]
    generalize hS2 : sNumS (tks T n) (i1, none) 0 999 = S2 at *
    generalize hV2 : sNumV (tks T n) (i1, none) 0 999 = V2 at *
    obtain ⟨i2, _ | x2⟩ := S2
    · obtain ⟨c2, c3⟩ := c2
      have W3 := c3.w
      obtain ⟨-, -, -, q1, -, q2⟩ := hx rfl
      have hV2 : V2 ≤ 999 := by rw [q2]; exact q1
      rw [show f_X7_readNumber 82 (nI 0) (nI 999) (ah_wI σ2 t 2 (nI V1)) = _ from c2, bd_s, pI_t W3 htn, bd_s, gR_82_2 (W3.wI _ _ _), ah_R_wI, r3, bd_s, gI_t (W3.wI _ _ _) htn, bd_s, rI_eq, if_neg (nI_ne1 (by omega)), rz_1]
      refine ⟨_, g3.wI (by unfold Xcm; omega), ⟨rfl, c3.fr (X := fun x y => x = t ∧ y = 3) (Fr.rfl.wI ⟨rfl, rfl⟩) (fun x y z q => by omega)⟩, fun _ => ⟨?_, ?_⟩⟩
      · have keep : ∀ a j, Tdm E t a j → ¬ (a = t ∧ (j = 2 ∨ j = 3)) → ah_I (ah_wI σ3 t 3 (nI V2)) a j = ah_I σ a j := fun a j z1 z2 => by
          rw [rI_ne (by omega), c1.I (fun q => Tdm_rn hT z1 (Or.inl q)), rI_ne (by omega), a1.I (fun q => Tdm_rn hT z1 (Or.inl q)), w2.I (Tdm_rn hT z1)]
        obtain ⟨t1, t2, t3, t4, t5, t6, t7, t8, t9, t10, t11, t12⟩ := hT.2.2.2.1
        have o : ∀ j, j ≠ 4 → j ≠ 5 → eRiv E V1 V2 227 j = E 227 j := fun j h4 h5 => by unfold eRiv; rw [up_j h5, up_j h4]
        show TR (ah_wI σ3 t 3 (nI V2)) t (eRiv E V1 V2)
        refine TR_num hT (W3.wI _ _ _) (MT_riv hT.2.2.1 hV hV2) (fun x hx => by unfold eRiv; rw [up_r (by omega), up_r (by omega)]) (o 0 (by omega) (by omega)) (o 1 (by omega) (by omega)) (o 2 (by omega) (by omega)) (o 3 (by omega) (by omega)) (o 11 (by omega) (by omega)) (fun a j z1 z2 => keep a j z1 (by omega)) ?_ ?_ ?_ ?_ ?_ ?_ ?_
        · rw [rI_ne (by omega), c1.I (by unfold Xrn; omega), rI_eq]; unfold eRiv; rw [up_j (by omega), up_e]
        · rw [rI_eq]; unfold eRiv; rw [up_e]
        · unfold ct; rw [o _ (by omega) (by omega), keep t 13 (by unfold Tdm; omega) (by omega)]; exact t7
        · unfold lf; rw [o _ (by omega) (by omega), keep _ 0 (by unfold Tdm; omega) (by omega)]; exact t8
        · unfold mf; rw [o _ (by omega) (by omega), keep _ 1 (by unfold Tdm; omega) (by omega)]; exact t9
        · unfold lc; rw [o _ (by omega) (by omega), keep _ 0 (by unfold Tdm; omega) (by omega)]; exact t10
        · unfold mc; rw [o _ (by omega) (by omega), keep _ 1 (by unfold Tdm; omega) (by omega)]; exact t11
      · rw [rI_ne (by omega), c1.I (by unfold Xrn; omega), rI_ne (by omega), a1.I (by unfold Xrn; omega)]; exact w4
    · obtain ⟨c2, c3⟩ := c2
      have W3 := c3.1
      rw [show f_X7_readNumber 82 (nI 0) (nI 999) (ah_wI σ2 t 2 (nI V1)) = _ from c2, bd_s, pI_t W3 htn, bd_s, gR_82_2 (W3.wI _ _ _), ah_R_wI, r3, bd_s, gI_t (W3.wI _ _ _) htn, bd_s, rI_eq, if_pos rfl, rz_0]
      exact ⟨_, g3.wI (by unfold Xcm; omega), ⟨rfl, c3.fr (X := fun x y => x = t ∧ y = 3) (Fr.rfl.wI ⟨rfl, rfl⟩) (by omega)⟩, fun w => nomatch w⟩
end
