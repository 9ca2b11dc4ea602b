/-! THE CLASS: the tables of a tree -/
def BrW (σ : ah_H) (D : DD) (st : Nat → Option Nat) (o : Nat) : Prop := ∃ W, W < 1024 ∧ ah_I σ 166 o = nI W ∧ ∀ i, W.testBit i = true ↔ InB D st o i
def FT1 (σ : ah_H) (D : DD) (c : Nat) : Prop := ∃ m s W, TrQ D m ∧ OrS D m (ost D m) ∧ ost D m c = some s ∧ s < nS D ∧ W < 1024 ∧ ah_I σ 167 c = nI (s * 1024 ||| W) ∧ (∀ i, W.testBit i = true ↔ InB D (ost D m) c i) ∧ CRow σ D (TC D (ost D m)) c
/-- a tag tells a table -/
def FT (σ : ah_H) (D : DD) : Prop := ∀ c, c < nC D → ah_I σ 167 c = mI 1 ∨ FT1 σ D c
def Xsv (t a j : Nat) : Prop := Xl t a j ∨ a = 168 ∨ a = 163 ∧ (j = 8 ∨ j = 18 ∨ j = 19) ∨ a = 166 ∨ a = 167 ∨ 170 ≤ a ∧ a ≤ 187
def SvC (σ : ah_H) (t : Nat) (D : DD) (m : Nat) (q : Nat → Nat) : Prop := TR σ t D ∧ ah_R σ 163 17 = some t ∧ D 227 4 ≠ mI 1 ∧ TrQ D m ∧ OQ D m (riv D) (nC D) (ost D m) q ∧ OrS D m (ost D m) ∧ (∀ j, j < nC D → ah_I σ 165 j = nI (q j)) ∧ (∀ c, c < 7 → ah_I σ 164 c = sv (ost D m c)) ∧ PrT σ D ∧ ah_R σ 201 8 = some t ∧ ∀ c, c < nC D → FD σ 201 D (ost D m) cpM c
theorem CRow.fr {σ τ : ah_H} {D : DD} {T : Tbl} {o : Nat} (h : CRow σ D T o) (e : ∀ j, ah_L τ (170 + o) j = ah_L σ (170 + o) j ∧ ah_L τ (178 + o) j = ah_L σ (178 + o) j) : CRow τ D T o := by
  intro w b h1 h2 h3
  rw [(e _).1, (e _).1, (e _).2, (e _).2]
  exact h w b h1 h2 h3
theorem CRow.cg {σ : ah_H} {D : DD} {T T' : Tbl} {o : Nat} (h : CRow σ D T o) (e : ∀ v b, T' o v b = T o v b) : CRow σ D T' o := by
  intro w b h1 h2 h3
  rw [cmjT_cg e, comT_cg e]
  exact h w b h1 h2 h3
theorem PrT.fr {σ τ : ah_H} {D : DD} (h : PrT σ D) (h4 : nP D ≤ 4) (h7 : nC D ≤ 7) (e : ∀ a j, 189 ≤ a → a < 201 → ah_L τ a j = ah_L σ a j) : PrT τ D := by
  refine ⟨fun w hw f h1 h2 => ?_, fun c hc w hw d h1 h2 => ?_⟩
  · rw [e _ _ (by omega) (by omega)]; exact h.1 w hw f h1 h2
  · rw [e _ _ (by omega) (by omega)]; exact h.2 c hc w hw d h1 h2
section
variable {σ τ : ah_H} {t : Nat} {D : DD} {m c s : Nat} {st : Nat → Option Nat} {q : Nat → Nat}
theorem inB_s (hn : ∀ c k, c < nC D → nx D st c = some k → k < nC D) (hc : c < nC D) (hs : st c = some s) (i : Nat) : InB D st c i ↔ i = s ∨ ∃ o, o < nC D ∧ nx D st o = some c ∧ InB D st o i := by
  constructor
  · rintro ⟨x, hx, hr, hi⟩
    rcases (br_in hn hx).mp hr with z | ⟨o, h1, h2, h3⟩
    · rw [z, hs] at hi; exact Or.inl (Option.some.inj hi).symm
    · exact Or.inr ⟨o, h1, h2, x, hx, h3, hi⟩
  · rintro (z | ⟨o, h1, h2, x, hx, hr, hi⟩)
    · exact ⟨c, hc, ⟨0, rfl⟩, by rw [hs, z]⟩
    · exact ⟨x, hx, (br_in hn hx).mpr (Or.inr ⟨o, h1, h2, hr⟩), hi⟩
theorem SvC.fr (h : SvC σ t D m q) (g : Fr (Xsv t) σ τ) : SvC τ t D m q := by
  obtain ⟨h1, h2, h3, h4, h5, h6, h7, h8, h9, h10, h11⟩ := h
  have htn := h1.tn
  have b7 := h1.t.qc7
  have b4 := h1.t.qp4
  unfold Tn at htn
  refine ⟨h1.fr g (fun a j _ _ => by unfold Xsv Xl; omega), ?_, h3, h4, h5, h6, fun j hj => ?_, fun c hc => ?_, h9.fr b4 b7 (fun a j _ _ => g.L (by unfold Xsv Xl; omega)), ?_, fun c hc => (h11 c hc).fr (by omega) (fun a j _ _ => g.L (by unfold Xsv Xl; omega)) (fun a j _ _ => g.I (by unfold Xsv Xl; omega))⟩
  · rw [g.R (Or.inr (by unfold Xsv Xl; omega))]; exact h2
  · rw [g.I (by unfold Xsv Xl; omega)]; exact h7 j hj
  · rw [g.I (by unfold Xsv Xl; omega)]; exact h8 c hc
  · rw [g.R (Or.inr (by unfold Xsv Xl; omega))]; exact h10
/-- those that come to a corner stand behind it -/
theorem OQ.kid (h : OQ D m (riv D) (nC D) st q) {i o : Nat} (hi : i < nC D) (hx : nx D st o = some (q i)) : ∃ j, i < j ∧ j < nC D ∧ q j = o := by
  obtain ⟨h1, h2, h3, h4, h5, h6⟩ := h
  have : ∃ j, 1 ≤ j ∧ j < nC D ∧ q j = o := by
    apply Classical.byContradiction
    intro z
    have := h5 o z
    unfold nx at hx
    rw [this] at hx; cases hx
  obtain ⟨j, j1, j2, rfl⟩ := this
  obtain ⟨s, s1, s2, s3, s4, i', i1, i2⟩ := h6 j j1 j2
  unfold nx at hx
  rw [s1] at hx
  have hx : oth D s (q j) = q i := Option.some.inj hx
  rw [← i2] at hx
  have := h4 i' i (by omega) hi hx
  exact ⟨j, by omega, j2, rfl⟩
theorem Xga_v : ∀ a j, Xga a j → Xsv t a j := by
  intro a j h; unfold Xga at h; unfold Xsv; omega
theorem Xnw_v : ∀ a j, Xnw c a j → Xsv t a j := by
  intro a j h; unfold Xnw at h; unfold Xsv; omega
theorem Xpl_v : ∀ a j, Xpl t a j → Xsv t a j := by
  intro a j h
  rcases h with h | h
  · exact Or.inl h
  · unfold Xsv; omega
theorem Xfi_v (hc : c < 7) : ∀ a j, Xfi c a j → Xsv t a j := by
  intro a j h; unfold Xfi at h; unfold Xsv; omega
theorem FT1.fr (h : FT1 σ D c) (e1 : ah_I τ 167 c = ah_I σ 167 c) (e2 : ∀ j, ah_L τ (170 + c) j = ah_L σ (170 + c) j ∧ ah_L τ (178 + c) j = ah_L σ (178 + c) j) : FT1 τ D c := by
  obtain ⟨m, s, W, h1, h2, h3, h4, h5, h6, h7, h8⟩ := h
  exact ⟨m, s, W, h1, h2, h3, h4, h5, by rw [e1]; exact h6, h7, h8.fr e2⟩
theorem BrW.fr (h : BrW σ D st c) (e1 : ah_I τ 166 c = ah_I σ 166 c) : BrW τ D st c := by
  obtain ⟨W, h1, h2, h3⟩ := h
  exact ⟨W, h1, by rw [e1]; exact h2, h3⟩
/-- one corner of the tree -/
theorem c_sv1 (h0 : SvC σ t D m q) {i : Nat} (hi : 1 ≤ i) (hi2 : i < nC D) (hk : ∀ j, i < j → j < nC D → BrW σ D (ost D m) (q j) ∧ CRow σ D (TC D (ost D m)) (q j)) (hF : FT σ D) (K : Nat → Int32 → ah_H → Option (Int64 × ah_H)) : ∃ τ, f_X0_solve_54_b K 163 (nI i) σ = K 163 (nI (i - 1)) τ ∧ Fr (Xsv t) σ τ ∧ (∀ j, i - 1 < j → j < nC D → BrW τ D (ost D m) (q j) ∧ CRow τ D (TC D (ost D m)) (q j)) ∧ FT τ D := by
  obtain ⟨h1, h2, h3, h4, h5, h6, h7, h8, h9, h10, h11⟩ := id h0
  have htn := h1.tn
  have hW := h1.w
  have b7 := h1.t.qc7
  have b10 := h1.t.qs10
  unfold Tn at htn
  have hn := or_nxl h1.t h6.1
  have hq := h5.2.2.1 i hi2
  obtain ⟨s, s1, s2, s3, s4, -⟩ := h5.2.2.2.2.2 i hi hi2
  have hs164 : ah_I σ 164 (q i) = nI s := by rw [h8 (q i) (by omega), s1]; rfl
  have hss : ∀ c, c < nC D → ah_I σ 164 c = sv (ost D m c) ∧ ∀ s, ost D m c = some s → s < nS D := fun c hc => ⟨h8 c (by omega), or_st h6.1 hc⟩
  obtain ⟨τ1, e1, f1, g1⟩ := c_gather h1 h2 hss hq
  have hv1 := h0.fr (f1.mono Xga_v)
  obtain ⟨k1, k2, k3, k4, k5, k6, k7, k8, k9, k10, k11⟩ := id hv1
  have hW1 := k1.w
  have hk1 : ∀ o, o < nC D → nx D (ost D m) o = some (q i) → BrW τ1 D (ost D m) o ∧ CRow τ1 D (TC D (ost D m)) o := by
    intro o ho hx
    obtain ⟨j, j1, j2, rfl⟩ := h5.kid hi2 hx
    obtain ⟨z1, z2⟩ := hk j j1 j2
    exact ⟨z1.fr (f1.I (by unfold Xga; omega)), z2.fr (fun j => ⟨f1.L (by unfold Xga; omega), f1.L (by unfold Xga; omega)⟩)⟩
  have hB : ∀ o, o < nC D → nx D (ost D m) o = some (q i) → ah_I τ1 166 o = nI (ix (ah_I τ1 166 o)) ∧ ix (ah_I τ1 166 o) < 1024 ∧ ∀ b, (ix (ah_I τ1 166 o)).testBit b = true ↔ InB D (ost D m) o b := by
    intro o ho hx
    obtain ⟨W, w1, w2, w3⟩ := (hk1 o ho hx).1
    have e : ix (ah_I τ1 166 o) = W := by rw [w2, ix_nI (by omega)]
    rw [e]
    exact ⟨w2, w1, w3⟩
  have hs1 : ah_I τ1 164 (q i) = nI s := by rw [f1.I (by unfold Xga; omega)]; exact hs164
  obtain ⟨τ2, e2, f2, n166, n167⟩ := c_isNew (B := fun o => ix (ah_I τ1 166 o)) hW1 b7 hq (show s < 10 by omega) hs1 g1 (fun o ho hx => (hB o ho hx).1)
  have hWl : orB (nx D (ost D m)) (q i) s (fun o => ix (ah_I τ1 166 o)) (nC D) < 1024 := orB_b (by omega) (fun o ho hx => (hB o ho hx).2.1) _ (Nat.le_refl _)
  have hWb : ∀ b, (orB (nx D (ost D m)) (q i) s (fun o => ix (ah_I τ1 166 o)) (nC D)).testBit b = true ↔ InB D (ost D m) (q i) b := by
    intro b
    rw [orB_in, inB_s hn hq s1]
    refine ⟨fun z => z.imp (fun z => z) (fun ⟨o, z1, z2, z3⟩ => ⟨o, z1, z2, ((hB o z1 z2).2.2 b).mp z3⟩), fun z => z.imp (fun z => z) (fun ⟨o, z1, z2, z3⟩ => ⟨o, z1, z2, ((hB o z1 z2).2.2 b).mpr z3⟩)⟩
  generalize orB (nx D (ost D m)) (q i) s (fun o => ix (ah_I τ1 166 o)) (nC D) = W at *
  have hv2 := hv1.fr (f2.mono Xnw_v)
  have f12 : Fr (Xsv t) σ τ2 := (f1.mono Xga_v).trans (f2.mono Xnw_v)
  have hsub : nI i + mI 1 = nI (i - 1) := by rw [jI_n, jI_m, jadd, jI_n]; congr 1; omega
  have e165 : ah_I σ 165 i = nI (q i) := h7 i hi2
  have e165' : ah_I τ1 165 i = nI (q i) := k7 i hi2
  have hpos : ¬ nI i ≤ nI 0 := by rw [le_nI (by omega) (by omega)]; omega
  have old : ∀ c, c ≠ q i → c < nC D → ah_I τ2 166 c = ah_I σ 166 c ∧ ah_I τ2 167 c = ah_I σ 167 c ∧ ∀ j, ah_L τ2 (170 + c) j = ah_L σ (170 + c) j ∧ ah_L τ2 (178 + c) j = ah_L σ (178 + c) j := by
    intro c hc hc2
    refine ⟨?_, ?_, fun j => ⟨?_, ?_⟩⟩
    · rw [f2.I (by unfold Xnw; omega), f1.I (by unfold Xga; omega)]
    · rw [f2.I (by unfold Xnw; omega), f1.I (by unfold Xga; omega)]
    · rw [f2.L (by unfold Xnw; omega), f1.L (by unfold Xga; omega)]
    · rw [f2.L (by unfold Xnw; omega), f1.L (by unfold Xga; omega)]
  by_cases qn : ah_I τ1 167 (q i) = nI (s * 1024 ||| W)
  · rw [cI_f (fun z => z qn)] at e2
    have he : f_X0_solve_54_b K 163 (nI i) σ = K 163 (nI (i - 1)) τ2 := by
      unfold f_X0_solve_54_b f_X0_solve_101
      simp only [to_bq, l_0, l_1, l_2, l_3, l_4, l_5, l_6, l_7, l_8, l_9, l_10, l_11, l_12, l_13, l_14, l_15, l_16, l_17, l_18, l_19, l_20, l_21, l_22, l_23, l_24, l_25, l_26, l_27, l_28, l_29, l_30, l_31, l_32, l_40, l_41, l_42, l_43, l_44, l_45, l_46, l_47, l_48, l_49, l_50, l_51, l_52, l_53, l_54, l_55, l_56, l_57, l_58, l_59, l_60, l_61, l_62, l_63, l_64, l_72, l_97, l_99, l_100, l_104, l_120, l_122, l_128, l_140, l_255, l_256, l_257, l_258, l_260, l_261, l_262, l_364, l_680, l_700, l_701, l_840, l_999, l_1023, l_1024, l_9999, l_10000, l_1000000, lm]
      rw [if_neg hpos]
      simp (disch := first | (with_reducible assumption) | omega | exact ⟨by omega, by omega⟩ | ((with_reducible first | apply Wf.wI | apply Wf.wL | apply Wf.fL | apply Wf.fI | apply Wf.fr); (repeat (with_reducible first | assumption | apply Wf.wI | apply Wf.wL | apply Wf.fL | apply Wf.fI | apply Wf.fr)))) only [ck_163, gI_163, gL_163, pI_163, pZ0_163, pZ1_163, pL_163, gR_163_1, gR_163_2, gR_163_3, gR_163_5, gR_163_6, gR_163_7, gR_163_9, gR_163_10, gR_163_11, gR_163_12, gR_163_13, gR_163_14, gR_163_15, pR_163_17, gR_163_17, aI_165, sI_165, len_165, bq_n, bd_s, mp_s, rz_0, rz_1, bI_rz, if_true, if_false, ite_true, ite_false, reduceIte, not_true, not_false, and_true, true_and, and_false, false_and, or_true, true_or, or_false, false_or, eq_self, e165, e1, e165', e2, hsub]
    have h167 : ah_I σ 167 (q i) = nI (s * 1024 ||| W) := by rw [← qn, f1.I (by unfold Xga; omega)]
    obtain ⟨m', s', W', t1, t2, t3, t4, t5, t6, t7, t8⟩ := (hF (q i) hq).resolve_left (fun z => tag_no (s := s) (W := W) (by omega) hWl (h167.symm.trans z))
    rw [h167] at t6
    obtain ⟨u1, u2⟩ := tag_inj (by omega) (by omega) hWl t5 t6
    subst u1 u2
    have hsb := same_b2 h1.t t2.1 h6.1 hq (t3.trans s1.symm) (fun b => (t7 b).symm.trans (hWb b))
    have hlw : ∀ v b, TC D (ost D m) (q i) v b = TC D (ost D m') (q i) v b := lw_smb (or_nxl h1.t t2.1) hn (fun c hc => or_nr t2.1 hc) (fun c hc => or_nr h6.1 hc) (nC D) (q i) hq hsb
    have hrow : CRow σ D (TC D (ost D m)) (q i) := t8.cg hlw
    refine ⟨τ2, he, f12, fun j j1 j2 => ?_, fun c hc => ?_⟩
    · by_cases qj : j = i
      · subst qj
        exact ⟨⟨W, hWl, n166, hWb⟩, hrow.fr (fun j => ⟨by rw [f2.L (by unfold Xnw; omega), f1.L (by unfold Xga; omega)], by rw [f2.L (by unfold Xnw; omega), f1.L (by unfold Xga; omega)]⟩)⟩
      · obtain ⟨z1, z2⟩ := hk j (by omega) j2
        have hne : q j ≠ q i := fun z => qj (h5.2.2.2.1 j i j2 hi2 z)
        obtain ⟨o1, o2, o3⟩ := old (q j) hne (h5.2.2.1 j j2)
        exact ⟨z1.fr o1, z2.fr o3⟩
    · by_cases qc : c = q i
      · subst qc
        exact Or.inr ⟨m, s, W, h4, h6, s1, s2, hWl, n167, hWb, hrow.fr (fun j => ⟨by rw [f2.L (by unfold Xnw; omega), f1.L (by unfold Xga; omega)], by rw [f2.L (by unfold Xnw; omega), f1.L (by unfold Xga; omega)]⟩)⟩
      · obtain ⟨o1, o2, o3⟩ := old c qc hc
        exact (hF c hc).imp (fun z => o2.trans z) (fun z => z.fr o2 o3)
  · rw [cI_t qn] at e2
    obtain ⟨l1, l2, l3, l4, l5, l6, l7, l8, l9, l10, l11⟩ := id hv2
    have hcl := cnt_le (kd (nx D (ost D m)) (q i)) (nC D)
    have g2 : GaR τ2 D (ost D m) (q i) (nC D) := ⟨by rw [f2.I (by unfold Xnw; omega)]; exact g1.1, fun o ho hx => by rw [f2.I (by unfold Xnw; omega)]; exact g1.2 o ho hx⟩
    obtain ⟨τ3, e3, f3, n187⟩ := c_priceLifts l1 l2 hq (show cnt (kd (nx D (ost D m)) (q i)) (nC D) ≤ 7 by omega) g2.1 l10 (l11 _ hq) (by rw [s1]; intro z; cases z)
    have hv3 := hv2.fr (f3.mono Xpl_v)
    obtain ⟨p1, p2, p3, p4, p5, p6, p7, p8, p9, p10, p11⟩ := id hv3
    have x3 : ∀ a j, 100 < a → a ≠ 187 → ¬ Xpl t a j := fun a j _ _ => by unfold Xpl Xl; omega
    have g3 : GaR τ3 D (ost D m) (q i) (nC D) := ⟨by rw [f3.I (x3 _ _ (by omega) (by omega))]; exact g2.1, fun o ho hx => by rw [f3.I (x3 _ _ (by omega) (by omega))]; exact g2.2 o ho hx⟩
    have hne : ∀ o, o < nC D → nx D (ost D m) o = some (q i) → o ≠ q i := by
      intro o ho hx z
      obtain ⟨j, j1, j2, j3⟩ := h5.kid hi2 hx
      rw [z] at j3
      have := h5.2.2.2.1 j i j2 hi2 j3
      omega
    have hfc : FiC τ3 t D (ost D m) (TC D (ost D m)) (gK D (ost D m)) (q i) s := by
      refine ⟨p1, p2, h3, p9, hq, by rw [p8 (q i) (by omega), s1]; rfl, s1, s2, p10, p11 _ hq, g3, fun o ho hx => ?_, TC_bd h1.t h6.1 hq, fun o v b hb => TC_lc hb, n187, hne, gK_b h1.t h6.1 hq⟩
      refine (hk1 o ho hx).2.fr (fun j => ⟨?_, ?_⟩)
      · rw [f3.L (x3 _ _ (by omega) (by omega)), f2.L (by unfold Xnw; omega)]
      · rw [f3.L (x3 _ _ (by omega) (by omega)), f2.L (by unfold Xnw; omega)]
    obtain ⟨τ4, e4, f4, n4⟩ := c_fill hfc
    have hrow : CRow τ4 D (TC D (ost D m)) (q i) := n4.cg (fun v b => (TC_fix h1.t h6.1 hq v b).symm)
    have he : f_X0_solve_54_b K 163 (nI i) σ = K 163 (nI (i - 1)) τ4 := by
      have e165a : ah_I τ2 165 i = nI (q i) := l7 i hi2
      have e165b : ah_I τ3 165 i = nI (q i) := p7 i hi2
      have hW2 := l1.w
      have hW3 := p1.w
      unfold f_X0_solve_54_b f_X0_solve_101
      simp only [to_bq, l_0, l_1, l_2, l_3, l_4, l_5, l_6, l_7, l_8, l_9, l_10, l_11, l_12, l_13, l_14, l_15, l_16, l_17, l_18, l_19, l_20, l_21, l_22, l_23, l_24, l_25, l_26, l_27, l_28, l_29, l_30, l_31, l_32, l_40, l_41, l_42, l_43, l_44, l_45, l_46, l_47, l_48, l_49, l_50, l_51, l_52, l_53, l_54, l_55, l_56, l_57, l_58, l_59, l_60, l_61, l_62, l_63, l_64, l_72, l_97, l_99, l_100, l_104, l_120, l_122, l_128, l_140, l_255, l_256, l_257, l_258, l_260, l_261, l_262, l_364, l_680, l_700, l_701, l_840, l_999, l_1023, l_1024, l_9999, l_10000, l_1000000, lm]
      rw [if_neg hpos]
      simp (disch := first | (with_reducible assumption) | omega | exact ⟨by omega, by omega⟩ | ((with_reducible first | apply Wf.wI | apply Wf.wL | apply Wf.fL | apply Wf.fI | apply Wf.fr); (repeat (with_reducible first | assumption | apply Wf.wI | apply Wf.wL | apply Wf.fL | apply Wf.fI | apply Wf.fr)))) only [ck_163, gI_163, gL_163, pI_163, pZ0_163, pZ1_163, pL_163, gR_163_1, gR_163_2, gR_163_3, gR_163_5, gR_163_6, gR_163_7, gR_163_9, gR_163_10, gR_163_11, gR_163_12, gR_163_13, gR_163_14, gR_163_15, pR_163_17, gR_163_17, aI_165, sI_165, len_165, bq_n, bd_s, mp_s, rz_0, rz_1, bI_rz, if_true, if_false, ite_true, ite_false, reduceIte, not_true, not_false, and_true, true_and, and_false, false_and, or_true, true_or, or_false, false_or, eq_self, e165, e1, e165', e2, show (nI 1 = nI 0) = False from eq_false (by decide), e165a, e3, e165b, e4, hsub]
    have x4 : ∀ c, c < nC D → c ≠ q i → ∀ a j, a = 166 ∨ a = 167 ∨ a = 170 + c ∨ a = 178 + c → ¬ Xfi (q i) a j := fun c _ _ a j _ => by unfold Xfi; omega
    have n166' : ah_I τ4 166 (q i) = nI W := by rw [f4.I (by unfold Xfi; omega), f3.I (x3 _ _ (by omega) (by omega))]; exact n166
    have n167' : ah_I τ4 167 (q i) = nI (s * 1024 ||| W) := by rw [f4.I (by unfold Xfi; omega), f3.I (x3 _ _ (by omega) (by omega))]; exact n167
    have old4 : ∀ c, c ≠ q i → c < nC D → ah_I τ4 166 c = ah_I σ 166 c ∧ ah_I τ4 167 c = ah_I σ 167 c ∧ ∀ j, ah_L τ4 (170 + c) j = ah_L σ (170 + c) j ∧ ah_L τ4 (178 + c) j = ah_L σ (178 + c) j := by
      intro c hc hc2
      obtain ⟨o1, o2, o3⟩ := old c hc hc2
      refine ⟨?_, ?_, fun j => ⟨?_, ?_⟩⟩
      · rw [f4.I (x4 c hc2 hc _ _ (by omega)), f3.I (x3 _ _ (by omega) (by omega))]; exact o1
      · rw [f4.I (x4 c hc2 hc _ _ (by omega)), f3.I (x3 _ _ (by omega) (by omega))]; exact o2
      · rw [f4.L (x4 c hc2 hc _ _ (by omega)), f3.L (x3 _ _ (by omega) (by omega))]; exact (o3 j).1
      · rw [f4.L (x4 c hc2 hc _ _ (by omega)), f3.L (x3 _ _ (by omega) (by omega))]; exact (o3 j).2
    refine ⟨τ4, he, (f12.trans (f3.mono Xpl_v)).trans (f4.mono (Xfi_v (by omega))), fun j j1 j2 => ?_, fun c hc => ?_⟩
    · by_cases qj : j = i
      · subst qj
        exact ⟨⟨W, hWl, n166', hWb⟩, hrow⟩
      · obtain ⟨z1, z2⟩ := hk j (by omega) j2
        have hne : q j ≠ q i := fun z => qj (h5.2.2.2.1 j i j2 hi2 z)
        obtain ⟨o1, o2, o3⟩ := old4 (q j) hne (h5.2.2.1 j j2)
        exact ⟨z1.fr o1, z2.fr o3⟩
    · by_cases qc : c = q i
      · subst qc
        exact Or.inr ⟨m, s, W, h4, h6, s1, s2, hWl, n167', hWb, hrow⟩
      · obtain ⟨o1, o2, o3⟩ := old4 c qc hc
        exact (hF c hc).imp (fun z => o2.trans z) (fun z => z.fr o2 o3)
theorem c_sv54 (h0 : SvC σ t D m q) : ∀ i fu τ, i < nC D → i < fu → Fr (Xsv t) σ τ → (∀ j, i < j → j < nC D → BrW τ D (ost D m) (q j) ∧ CRow τ D (TC D (ost D m)) (q j)) → FT τ D → ∃ τ', f_X0_solve_54 fu 163 (nI i) τ = f_X0_solve_107 163 τ' ∧ Fr (Xsv t) σ τ' ∧ (∀ j, 1 ≤ j → j < nC D → CRow τ' D (TC D (ost D m)) (q j)) ∧ FT τ' D := by
  intro i
  induction i with
  | zero =>
    intro fu τ hi hf g hk hF
    obtain ⟨fu, rfl⟩ : ∃ q, fu = q + 1 := ⟨fu - 1, by omega⟩
    refine ⟨τ, ?_, g, fun j j1 j2 => (hk j (by omega) j2).2, hF⟩
    show f_X0_solve_54_b _ _ _ _ = _
    unfold f_X0_solve_54_b
    simp only [to_bq, l_0, l_1, l_2, l_3, l_4, l_5, l_6, l_7, l_8, l_9, l_10, l_11, l_12, l_13, l_14, l_15, l_16, l_17, l_18, l_19, l_20, l_21, l_22, l_23, l_24, l_25, l_26, l_27, l_28, l_29, l_30, l_31, l_32, l_40, l_41, l_42, l_43, l_44, l_45, l_46, l_47, l_48, l_49, l_50, l_51, l_52, l_53, l_54, l_55, l_56, l_57, l_58, l_59, l_60, l_61, l_62, l_63, l_64, l_72, l_97, l_99, l_100, l_104, l_120, l_122, l_128, l_140, l_255, l_256, l_257, l_258, l_260, l_261, l_262, l_364, l_680, l_700, l_701, l_840, l_999, l_1023, l_1024, l_9999, l_10000, l_1000000, lm]
    rw [if_pos (by decide)]
  | succ i ih =>
    intro fu τ hi hf g hk hF
    obtain ⟨fu, rfl⟩ : ∃ q, fu = q + 1 := ⟨fu - 1, by omega⟩
    obtain ⟨τ1, e1, f1, k1, F1⟩ := c_sv1 (h0.fr g) (i := i + 1) (by omega) hi hk hF (f_X0_solve_54 fu)
    show ∃ τ', f_X0_solve_54_b (f_X0_solve_54 fu) 163 (nI (i + 1)) τ = _ ∧ _
    rw [e1]
    exact ih fu τ1 (by omega) (by omega) (g.trans f1) (fun j j1 j2 => k1 j (by omega) j2) F1
end
