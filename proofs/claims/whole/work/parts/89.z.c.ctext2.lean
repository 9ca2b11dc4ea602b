/-! TEXT OF THE CLASS: all of it -/
theorem lns_b (k : Nat → TK) : ∀ f i E td o ls E' td' o' ls', lns k f i E td o ls = .inr (E', td', o', ls') → ls' ≤ ls + f := by
  intro f
  induction f with
  | zero => intro i E td o ls E' td' o' ls' h; cases h
  | succ f ih =>
    intro i E td o ls E' td' o' ls' h
    rw [lns_s] at h
    by_cases z : tS (k i) = 4
    · rw [if_pos z] at h; cases h; omega
    · rw [if_neg z] at h
      cases e : lin k i E td o with
      | inl x => rw [e] at h; cases h
      | inr q =>
        obtain ⟨i', E1, td1, o1⟩ := q
        rw [e] at h
        have := ih _ _ _ _ _ _ _ _ _ h
        omega
section
variable {σ τ ρ : ah_H} {n t : Nat} {D E : DD}
theorem c_netClear (hW : Wf σ) : ∃ τ, f_X5_clear 90 σ = some τ ∧ Fr (fun a _ => a = 90 ∨ a = 91) σ τ ∧ ah_I τ 90 4 = nI 0 ∧ ah_I τ 90 7 = nI 0 ∧ ah_I τ 90 5 = nI 0 ∧ ∀ c, c < 7 → ah_I τ 91 c = mI 1 := by
  have g1 : Fr (fun a _ => a = 90 ∨ a = 91) σ (ah_fI σ 91 0 7 (mI 1)) := Fr.rfl.fI (fun j _ _ => Or.inr rfl)
  have hW1 := hW.fr g1
  refine ⟨ah_wI (ah_wI (ah_wI (ah_fI σ 91 0 7 (mI 1)) 90 4 (nI 0)) 90 7 (nI 0)) 90 5 (nI 0), ?_, ((g1.wI (Or.inl rfl)).wI (Or.inl rfl)).wI (Or.inl rfl), ?_, ?_, ?_, fun c hc => ?_⟩
  · unfold f_X5_clear f_X5_clear_0
    rw [ck_90 hW, gR_90_0 hW, bd_s, show (-1 : Int32) = mI 1 from rfl, c_fillI _ hW S0_91 (by omega), bd_s, show (0 : Int32) = nI 0 from l_0, pI_90 hW1, bd_s, pI_90 (hW1.wI _ _ _), bd_s, pZ0_90 ((hW1.wI _ _ _).wI _ _ _), bd_s]
  · rw [rI_ne (by omega), rI_ne (by omega), rI_eq]
  · rw [rI_ne (by omega), rI_eq]
  · rw [rI_eq]
  · rw [rI_ne (by omega), rI_ne (by omega), rI_ne (by omega), I_fI, if_pos ⟨rfl, by omega, hc⟩]
theorem c_jServe (hW : Wf σ) (u : Nat) : ∃ τ, f_X3_serve 117 u σ = some τ ∧ Fr (fun a _ => a = 117) σ τ ∧ ah_R τ 117 6 = some u ∧ ah_I τ 117 2 = nI 0 := by
  have g1 : Fr (fun a _ => a = 117) σ (ah_wR σ 117 6 (some u)) := Fr.rfl.wR (by decide) rfl
  refine ⟨ah_wI (ah_wR σ 117 6 (some u)) 117 2 (nI 0), ?_, g1.wI rfl, rR_eq, rI_eq⟩
  unfold f_X3_serve f_X3_serve_0
  rw [ck_117 hW, pR_117_6 hW, bd_s, show (0 : Int32) = nI 0 from l_0, pZ0_117 (hW.fr g1), bd_s]
theorem c_dServe (hW : Wf σ) (u : Nat) : ∃ τ, f_X0_serve 163 u σ = some τ ∧ Fr (fun a _ => a = 163 ∨ a = 167) σ τ ∧ ah_R τ 163 17 = some u ∧ ah_I τ 163 16 = nI 0 ∧ ∀ c, c < 7 → ah_I τ 167 c = mI 1 := by
  have g1 : Fr (fun a _ => a = 163 ∨ a = 167) σ (ah_wR σ 163 17 (some u)) := Fr.rfl.wR (by decide) (Or.inl rfl)
  have hW2 := (hW.fr g1).wI 163 16 (nI 0)
  refine ⟨ah_fI (ah_wI (ah_wR σ 163 17 (some u)) 163 16 (nI 0)) 167 0 7 (mI 1), ?_, (g1.wI (Or.inl rfl)).fI (fun j _ _ => Or.inr rfl), rR_eq, ?_, fun c hc => ?_⟩
  · unfold f_X0_serve f_X0_serve_0
    rw [ck_163 hW, pR_163_17 hW, bd_s, show (0 : Int32) = nI 0 from l_0, pZ0_163 (hW.fr g1), bd_s, gR_163_6 hW2, bd_s, show (-1 : Int32) = mI 1 from rfl, c_fillI _ hW2 S0_167 (by omega), bd_s]
  · rw [I_fI, if_neg (by omega), rI_eq]
  · rw [I_fI, if_pos ⟨rfl, by omega, hc⟩]
theorem c_tServe (hW : Wf σ) (u : Nat) : ∃ τ, f_X10_serve 160 u σ = some τ ∧ Fr (fun a _ => a = 160 ∨ a = 161 ∨ a = 163 ∨ a = 167) σ τ ∧ ah_R τ 160 6 = some u ∧ ah_I τ 160 7 = nI 0 ∧ (∀ m, m < 1024 → ah_L τ 161 m = iL (-9)) ∧ ah_R τ 163 17 = some u ∧ ah_I τ 163 16 = nI 0 ∧ ∀ c, c < 7 → ah_I τ 167 c = mI 1 := by
  have g1 : Fr (fun a _ => a = 160 ∨ a = 161 ∨ a = 163 ∨ a = 167) σ (ah_wR σ 160 6 (some u)) := Fr.rfl.wR (by decide) (Or.inl rfl)
  have hW2 := (hW.fr g1).wI 160 7 (nI 0)
  have g2 : Fr (fun a _ => a = 160 ∨ a = 161 ∨ a = 163 ∨ a = 167) σ (ah_fL (ah_wI (ah_wR σ 160 6 (some u)) 160 7 (nI 0)) 161 0 1024 (iL (-9))) := (g1.wI (Or.inl rfl)).fL (fun j _ _ => by omega)
  have hW3 := hW.fr g2
  obtain ⟨τ, d1, d2, d3, d4, d5⟩ := c_dServe hW3 u
  refine ⟨τ, ?_, g2.trans (d2.mono (fun a j z => by omega)), ?_, ?_, fun m hm => ?_, d3, d4, d5⟩
  · unfold f_X10_serve f_X10_serve_0
    rw [ck_160 hW, pR_160_6 hW, bd_s, show (0 : Int32) = nI 0 from l_0, pZ0_160 (hW.fr g1), bd_s, gR_160_4 hW2, bd_s, show (-9 : Int64) = iL (-9) by decide, c_fillL _ hW2 S0_161 (by omega), bd_s, gR_160_3 hW3, bd_s, d1, bd_s]
  · rw [d2.R (Or.inr (by omega))]; exact rR_eq
  · rw [d2.I (by omega)]; exact (rI_eq : ah_I (ah_wI (ah_wR σ 160 6 (some u)) 160 7 (nI 0)) 160 7 = nI 0)
  · rw [d2.L (by omega)]; exact if_pos ⟨rfl, Nat.zero_le _, hm⟩
def CTo (τ : ah_H) (t n : Nat) (D : DD) (r : LnZ) : Prop := match r with
  | .inl x => CJ τ t (dTf D x.1 (tP (tks (tpT D) n x.2))) ∧ TI τ t (dTf D x.1 (tP (tks (tpT D) n x.2)))
  | .inr (E, _, _, _) => ∀ hp, CJ τ (44 - t) (dTx D E hp) ∧ TI τ (44 - t) (dTx D E hp)
theorem c_text (h : CJ σ t D) (hi : TI σ t D) (hB : MB D) (hn : n ≤ tpd D) (hE : IsE0 E) (hR : RLs ρ (tpT D) n 0 E 0 []) : ∃ τ, f_X11_text 0 (nI n) σ = some (ansT (lns (tks (tpT D) n) 701 0 E 0 [] 0), τ) ∧ Fr (fun a _ => a < 225) σ τ ∧ CTo τ t n D (lns (tks (tpT D) n) 701 0 E 0 [] 0) := by
  have hW := h.w
  have htn : Tn t := h.r.tn
  have hT : t = 2 ∨ t = 42 := htn
  have htn' : Tn (44 - t) := hT.elim (fun z => Or.inr (by omega)) (fun z => Or.inl (by omega))
  obtain ⟨q2, q7⟩ := hB.qtp
  have b7 := h.r.t.qc7
  have b4 := h.r.t.qp4
  have hv : ∀ i, TVb (tks (tpT D) n i) := fun i => tks_v (T := tpT D) (n := n) (fun j hj => hR.1.1.1.tb j (by have := hR.1.1.1.2.1; omega)) i
  obtain ⟨j1, j2, j3, j4, ⟨j5, j6⟩, ⟨j7, j8⟩, j9⟩ := id h
  have g1 : Fr (fun a j => a = 0 ∧ j = 1) σ (ah_wI σ 0 1 (nI 0)) := Fr.rfl.wI ⟨rfl, rfl⟩
  have hW1 := hW.fr g1
  obtain ⟨τ1, a1, a2, a3⟩ := c_read (T := tpT D) (n := n) (t := 44 - t) (ρ := ρ) hW1 htn' (by omega) (fun j hj => by
    rw [g1.I (by omega), j6 j (by omega)]
    obtain ⟨d1, d2⟩ := hB.2.2.2 j (by omega)
    exact ⟨by unfold bvt; exact congrArg _ d1, d2⟩) (fun k hk => by rw [g1.I (by omega)]; exact j9 k hk) hE hR hv
  have gA : Fr (fun a j => a = 0 ∧ j = 1 ∨ Xrd (44 - t) a j) σ τ1 := (g1.mono (fun a j z => Or.inl z)).trans (a2.mono (fun a j z => Or.inr z))
  have hWt := hW.fr gA
  have r03 : ah_R τ1 0 3 = some (44 - t) := (gA.R (Or.inr (by unfold Xrd; omega))).trans j4
  have r02 : ah_R τ1 0 2 = some t := (gA.R (Or.inr (by unfold Xrd; omega))).trans j3
  have v01 : ah_I τ1 0 1 = nI 0 := by rw [a2.I (by unfold Xrd; omega)]; exact rI_eq
  have v84 : ∀ k, k < 24 → ah_I τ1 84 k = kyv k := fun k hk => (gA.I (by unfold Xrd; omega)).trans (j9 k hk)
  have x225 : ∀ a j, (a = 0 ∧ j = 1 ∨ Xrd (44 - t) a j) → a < 225 := fun a j z => by unfold Xrd at z; omega
  have hbd := lns_b (tks (tpT D) n) 701 0 E 0 [] 0
  have e0 : f_X11_text 0 (nI n) σ = (fun r5 : Int32 × ah_H => if r5.1 = (-1 : Int32) then (some (r5.1, r5.2)) else ((op_gR 11 3 r5.2 0).bind fun v6 => (op_gR 11 2 r5.2 0).bind fun v7 => (op_pR 11 3 r5.2 0 v7).bind fun σ8 => (op_pR 11 2 σ8 0 v6).bind fun σ9 => (op_gR 11 5 σ9 0).bind fun v10 => (f_X5_clear v10 σ9).bind fun r11 => (op_gR 11 6 r11 0).bind fun v12 => (op_gR 11 2 r11 0).bind fun v13 => (f_X3_serve v12 v13 r11).bind fun r14 => (op_gR 11 7 r14 0).bind fun v15 => (op_gR 11 2 r14 0).bind fun v16 => (f_X10_serve v15 v16 r14).bind fun r17 => some (r5.1, r17))) (ansT (lns (tks (tpT D) n) 701 0 E 0 [] 0), τ1) := by
    unfold f_X11_text f_X11_text_0
    rw [ck_0 hW, if_neg (show ¬ nI n < (0 : Int32) by rw [show (0 : Int32) = nI 0 from l_0, lt_nI (by omega) (by omega)]; omega), gI_0 hW, j5, q2, bd_s, if_pos (by rw [le_nI (by omega) (by omega)]; exact hn), show (0 : Int32) = nI 0 from l_0, pI_0 hW, bd_s, gR_0_4 hW1, bd_s, gR_0_3 hW1, show ah_R (ah_wI σ 0 1 (nI 0)) 0 3 = some (44 - t) from j4, bd_s, a1, bd_s]
  rw [e0]
  clear e0
  generalize lns (tks (tpT D) n) 701 0 E 0 [] 0 = r at *
  cases r with
  | inl x =>
    obtain ⟨f, p⟩ := x
    have a3 : CFl τ1 (tpT D) n f p := a3
    refine ⟨τ1, if_pos rfl, gA.mono x225, ?_, ?_⟩
    · have hj := j1.fr gA (fun a j z => by unfold Xrd; omega)
      have hs : SameN (dTf D f (tP (tks (tpT D) n p))) D := fun a y1 y2 => dTf_o (by omega)
      have hMB := MB_dTf hB (f := f) (p := tP (tks (tpT D) n p))
      refine ⟨hj.cg hs hMB.2.1, (j2.fr gA (fun a j z => by unfold Xrd; omega)).cg (dTf_n (by omega)) (dTf_n (by omega)) (fun a y1 y2 => dTf_o (by omega)), r02, r03, ⟨v01, ?_⟩, ⟨a3.2.1, a3.2.2⟩, v84⟩
      intro j hj
      exact absurd hj (Nat.not_lt_zero j)
    · exact (hi.fr b4 b7 gA (fun a j z => by unfold Xrd; omega)).cg (fun a y1 y2 => dTf_o (by omega))
  | inr q =>
    obtain ⟨E', td', o', ls⟩ := q
    have hls := hbd E' td' o' ls rfl
    obtain ⟨k1, k2, k3⟩ := a3
    have na : ¬ ansT (.inr (E', td', o', ls)) = (-1 : Int32) := nI_ne1 (show ls < 2147483648 by omega)
    have gB : Fr (fun a j => a = 0 ∧ (j = 2 ∨ j = 3)) τ1 (ah_wR (ah_wR τ1 0 3 (some t)) 0 2 (some (44 - t))) := (Fr.rfl.wR (by decide) (by omega)).wR (by decide) (by omega)
    have s02 : ah_R (ah_wR (ah_wR τ1 0 3 (some t)) 0 2 (some (44 - t))) 0 2 = some (44 - t) := rR_eq
    have s03 : ah_R (ah_wR (ah_wR τ1 0 3 (some t)) 0 2 (some (44 - t))) 0 3 = some t := by rw [rR_ne (by omega)]; exact rR_eq
    have gB1 : Fr (fun a j => a = 0 ∧ (j = 2 ∨ j = 3)) τ1 (ah_wR τ1 0 3 (some t)) := Fr.rfl.wR (by decide) (by omega)
    have hWB1 := hWt.fr gB1
    have hWB := hWt.fr gB
    have eB := pR_0_2 hWB1 (b := 44 - t)
    generalize ah_wR (ah_wR τ1 0 3 (some t)) 0 2 (some (44 - t)) = τ2 at *
    obtain ⟨τ3, c1, c2, c3, c4, c5, c6⟩ := c_netClear hWB
    have hW3 := hWB.fr c2
    obtain ⟨τ4, d1, d2, d3, d4⟩ := c_jServe hW3 (44 - t)
    have hW4 := hW3.fr d2
    obtain ⟨τ5, f1, f2, f3, f4, f5, f6, f7, f8⟩ := c_tServe hW4 (44 - t)
    have s3 : ah_R τ3 0 2 = some (44 - t) := (c2.R (Or.inr (by omega))).trans s02
    have s4 : ah_R τ4 0 2 = some (44 - t) := (d2.R (Or.inr (by omega))).trans s3
    have gZ : Fr (fun a j => a = 0 ∧ (j = 2 ∨ j = 3) ∨ a = 90 ∨ a = 91 ∨ a = 117 ∨ a = 160 ∨ a = 161 ∨ a = 163 ∨ a = 167) τ1 τ5 := (((gB.mono (fun a j z => by omega)).trans (c2.mono (fun a j z => by omega))).trans (d2.mono (fun a j z => by omega))).trans (f2.mono (fun a j z => by omega))
    refine ⟨τ5, ?_, (gA.mono x225).trans (gZ.mono (fun a j z => by omega)), fun hp => ?_⟩
    · simp only
      rw [if_neg na, gR_0_3 hWt, r03, bd_s, gR_0_2 hWt, r02, bd_s, pR_0_3 hWt, bd_s, eB, bd_s, gR_0_5 hWB, bd_s, c1, bd_s, gR_0_6 hW3, bd_s, gR_0_2 hW3, s3, bd_s, d1, bd_s, gR_0_7 hW4, bd_s, gR_0_2 hW4, s4, bd_s, f1, bd_s]
    · have hTR : TR τ5 (44 - t) (dTx D E' hp) := (k1.fr gZ (fun a j y1 y2 => by omega)).ck dTx_t dTx_k
      have e52 : dTx D E' hp 225 52 = nI 0 := by rw [dTx_5, if_neg (by omega)]
      have e57 : dTx D E' hp 225 57 = nI 0 := by rw [dTx_5, if_neg (by omega)]
      have z7 := hTR.t.qc7
      have zs := hTR.t.qs10
      refine ⟨⟨⟨hTR, MN_dTx, ?_, fun c hc => ⟨?_, fun z => absurd dTx_8 z⟩, fun c hc => ?_, Or.inl ?_⟩, ⟨?_, ⟨0, by omega, ?_, fun i hi => ?_⟩, ?_, fun z => ?_⟩, ?_, ?_, ⟨?_, fun j hj => ?_⟩, ⟨?_, ?_⟩, fun k hk => ?_⟩, ⟨f3, f6, Or.inl f7, fun c hc => Or.inl (f8 c (by omega)), fun c hc => ?_, fun m hm => Or.inl (f5 m ?_)⟩, Or.inl f4⟩
      · rw [f2.R (Or.inr (by omega))]; exact d3
      · rw [dTx_8, f2.I (by omega), d2.I (by omega)]; exact c6 c hc
      · rw [gZ.L (by omega), gA.L (by unfold Xrd; omega)]; exact j1.2.2.2.2.1 c hc
      · rw [f2.I (by omega)]; exact d4
      · rw [e52, f2.I (by omega), d2.I (by omega)]; exact c3
      · rw [f2.I (by omega), d2.I (by omega)]; exact c4
      · unfold km at hi; rw [e52] at hi; exact absurd hi (Nat.not_lt_zero i)
      · rw [e57, f2.I (by omega), d2.I (by omega)]; exact c5
      · rw [e57] at z; exact absurd z (by decide)
      · rw [f2.R (Or.inr (by omega))]; exact s4
      · rw [show 44 - (44 - t) = t by omega, f2.R (Or.inr (by omega)), d2.R (Or.inr (by omega)), c2.R (Or.inr (by omega))]; exact s03
      · rw [dTx_5, if_neg (by omega), gZ.I (by omega)]; exact v01
      · unfold tpd at hj; rw [dTx_5, if_neg (by omega)] at hj; exact absurd hj (Nat.not_lt_zero j)
      · rw [dTx_5, if_neg (by omega), gZ.I (by omega)]; exact k2
      · rw [dTx_5, if_pos rfl, gZ.I (by omega)]; exact k3
      · rw [gZ.I (by omega)]; exact v84 k hk
      · rw [gZ.L (by omega), gA.L (by unfold Xrd; omega)]; exact hi.1.2.2.2.2.1 c hc
      · exact Nat.lt_of_lt_of_le hm (Nat.pow_le_pow_right (by omega) zs)
end
