/-! FLOWS of the reference: a corner, and all -/
def lim (cp : Nat → Nat) (o x : Nat) : Nat := min (cp o) x
def FF (D : DD) (st : Nat → Option Nat) (cp : Nat → Nat) (r c t : Nat) : Nat := inf (nx D st) (nC D) (hr D st) (lim cp) (ra D r) (nC D) c t
section
variable {σ : ah_H} {D : DD} {e : Nat} {st : Nat → Option Nat} {cp : Nat → Nat}
theorem ra_b (ht : MT D) {r c t : Nat} (hr0 : r < nR D) (hc : c < nC D) : ra D r c t ≤ 9801 := by
  unfold ra
  split
  · next q => exact Nat.le_trans (Nat.mul_le_mul (ht.qare9 hc) (ht.qrnv99 hr0 q)) (by decide)
  · omega
theorem inf_b' {nx : Nat → Option Nat} {n : Nat} {hr : Nat → Nat} {li : Nat → Nat → Nat} {ra : Nat → Nat → Nat} (hn : n ≤ 7) (hl : ∀ o x, li o x ≤ x) (hra : ∀ c t, c < n → ra c t ≤ 9801) (d c t : Nat) (hc : c < n) : inf nx n hr li ra d c t ≤ ifb d := by
  induction d generalizing c t with
  | zero => exact Nat.le_refl _
  | succ d ih =>
    show ra c t + _ ≤ 9801 + 7 * ifb d
    have h1 := hra c t hc
    have h2 := sm_le (f := fun o => if nx o = some c ∧ hr o ≤ t then li o (inf nx n hr li ra d o (t - hr o)) else 0) (n := n) (B := ifb d) (by
      intro o ho
      show (if _ then _ else _) ≤ _
      split
      · exact Nat.le_trans (hl _ _) (ih _ _ ho)
      · exact Nat.zero_le _)
    have h3 : n * ifb d ≤ 7 * ifb d := Nat.mul_le_mul_right _ hn
    omega
theorem lim_le (o x : Nat) : lim cp o x ≤ x := by unfold lim; omega
theorem FF_b (ht : MT D) {r c t : Nat} (hr0 : r < nR D) (hc : c < nC D) : FF D st cp r c t ≤ 1400000000 :=
  Nat.le_trans (inf_b' ht.qc7 lim_le (fun _ _ h => ra_b ht hr0 h) _ _ _ hc) (ifb_7 ht.qc7)
theorem FF_fx {r c t : Nat} (h : Hd (nx D st) (nC D) (nC D) c) : FF D st cp r c t = ra D r c t + sm (tk D st (fun o q => lim cp o (FF D st cp r o q)) c t) (nC D) := inf_fx h
/-- a corner's flows and floods as they should be -/
def GV (σ : ah_H) (D : DD) (st : Nat → Option Nat) (cp : Nat → Nat) (c : Nat) : Prop := ∀ r, r < nR D → ∀ t, t < 30 → ah_L σ 252 (atf c r t) = iL ((lim cp c (FF D st cp r c t) : Nat) : Int) ∧ ah_L σ 253 (atf c r t) = iL ((FF D st cp r c t - lim cp c (FF D st cp r c t) : Nat) : Int)
def ZV (σ : ah_H) (D : DD) (c : Nat) : Prop := ∀ r, r < nR D → ∀ t, t < 30 → ah_L σ 252 (atf c r t) = iL 0 ∧ ah_L σ 253 (atf c r t) = iL 0
theorem atf_in {c r t k : Nat} (hr : r < 4) (ht : t < 30) (hk : c ≠ k) : ¬ (120 * k ≤ atf c r t ∧ atf c r t < 120 * k + 120) := by unfold atf; omega
theorem atf_lt {c r t : Nat} (hc : c < 7) (hr : r < 4) (ht : t < 30) : atf c r t < 840 := by unfold atf; omega
theorem GV.fr {τ : ah_H} {c : Nat} (h : GV σ D st cp c) (e : ∀ a j, 252 ≤ a → a ≤ 253 → 120 * c ≤ j → j < 120 * c + 120 → ah_L τ a j = ah_L σ a j) (hR : nR D ≤ 4) : GV τ D st cp c := by
  intro r hr t ht
  have := h r hr t ht
  rw [e 252 _ (by omega) (by omega) (by unfold atf; omega) (by unfold atf; omega), e 253 _ (by omega) (by omega) (by unfold atf; omega) (by unfold atf; omega)]
  exact this
theorem ZV.fr {τ : ah_H} {c : Nat} (h : ZV σ D c) (e : ∀ a j, 252 ≤ a → a ≤ 253 → 120 * c ≤ j → j < 120 * c + 120 → ah_L τ a j = ah_L σ a j) (hR : nR D ≤ 4) : ZV τ D c := by
  intro r hr t ht
  have := h r hr t ht
  rw [e 252 _ (by omega) (by omega) (by unfold atf; omega) (by unfold atf; omega), e 253 _ (by omega) (by omega) (by unfold atf; omega) (by unfold atf; omega)]
  exact this
theorem m_fl19 (h0 : MInv σ D) (hs0 : StR σ D e st) {c : Nat} {M : Int} (hc : c < nC D) (hM : 0 ≤ M ∧ M ≤ 4000000000000000000) (hcp : ((cp c : Nat) : Int) = M) (hch : ∀ o, o < nC D → nx D st o = some c → GV σ D st cp o) (hH : Hd (nx D st) (nC D) (nC D) c) : ∀ m k fu τ, k + m = nR D → m < fu → Fr (Xc c) σ τ → ∃ ρ, f_X12_flowOf_19 fu 225 (nI c) (iL M) (nI k) τ = some ρ ∧ Fr (Xc c) τ ρ ∧ (∀ r, k ≤ r → r < nR D → ∀ t, t < 30 → ah_L ρ 252 (atf c r t) = iL ((lim cp c (FF D st cp r c t) : Nat) : Int) ∧ ah_L ρ 253 (atf c r t) = iL ((FF D st cp r c t - lim cp c (FF D st cp r c t) : Nat) : Int)) ∧ ∀ a j, ¬ atf c k 0 ≤ j → ah_L ρ a j = ah_L τ a j := by
  have b1 := h0.bd
  intro m
  induction m with
  | zero =>
    intro k fu τ hk hf hfr
    obtain ⟨fu, rfl⟩ : ∃ q, fu = q + 1 := ⟨fu - 1, by omega⟩
    have h : MInv τ D := h0.q (hfr.mono Xc_q)
    have hw := h.w
    refine ⟨τ, ?_, Fr.rfl, fun r a b => by omega, fun a j _ => rfl⟩
    show f_X12_flowOf_19_b _ _ _ _ _ _ = _
    unfold f_X12_flowOf_19_b
    simp only [to_bq, l_0, l_1, l_2, l_3, l_4, l_5, l_6, l_7, l_8, l_9, l_10, l_11, l_12, l_13, l_14, l_15, l_16, l_17, l_18, l_19, l_20, l_21, l_22, l_23, l_24, l_25, l_26, l_27, l_28, l_29, l_30, l_31, l_32, l_40, l_41, l_42, l_43, l_44, l_45, l_46, l_47, l_48, l_49, l_50, l_51, l_52, l_53, l_54, l_55, l_56, l_57, l_58, l_59, l_60, l_61, l_62, l_63, l_64, l_72, l_97, l_99, l_100, l_104, l_120, l_122, l_128, l_140, l_255, l_256, l_257, l_258, l_260, l_261, l_262, l_364, l_680, l_700, l_701, l_840, l_999, l_1023, l_1024, l_9999, l_10000, l_1000000, lm]
    simp (disch := first | (with_reducible assumption) | omega | exact ⟨by omega, by omega⟩ | ((with_reducible first | apply Wf.wI | apply Wf.wL | apply Wf.fL | apply Wf.fI | apply Wf.fr); (repeat (with_reducible first | assumption | apply Wf.wI | apply Wf.wL | apply Wf.fL | apply Wf.fI | apply Wf.fr)))) only [ck_225, gI_225, gL_225, pI_225, pZ0_225, pZ1_225, pL_225, gR_225_1, gR_225_3, gR_225_4, gR_225_5, gR_225_6, gR_225_7, gR_225_8, gR_225_9, gR_225_10, gR_225_11, gR_225_12, gR_225_13, gR_225_14, gR_225_15, gR_225_16, gR_225_17, gR_225_18, gR_225_19, gR_225_20, gR_225_21, gR_225_35, gR_225_36, gR_225_38, gR_225_39, gR_225_40, gR_225_41, gR_225_43, gR_225_44, gR_225_45, gR_225_48, gR_225_49, gR_225_50, gR_225_51, gR_225_53, gR_225_54, gR_225_55, gR_225_56, gR_225_58, gR_225_59, gR_225_60, gR_225_61, gR_225_62, gR_225_63, gR_225_66, gR_225_67, bq_s, bd_s, mp_s, rz_0, rz_1, bI_rz, zadd, zmul, zsub, le_nI, lt_nI, eq_nI, neg_nI, gen_nI, neg_lt, neg_le, neg_lt', neg_le', nI_lt0, if_true, if_false, ite_true, ite_false, reduceIte, not_true, not_false, and_true, true_and, and_false, false_and, or_true, true_or, or_false, false_or, eq_self, aI_227, rd_N h, show (nR D ≤ k) = True from eq_true (by omega)]
  | succ m ih =>
    intro k fu τ hk hf hfr
    obtain ⟨fu, rfl⟩ : ∃ q, fu = q + 1 := ⟨fu - 1, by omega⟩
    have h : MInv τ D := h0.q (hfr.mono Xc_q)
    have hw := h.w
    show ∃ ρ, f_X12_flowOf_19_b _ _ _ _ _ _ = _ ∧ _
    unfold f_X12_flowOf_19_b
    simp only [to_bq, l_0, l_1, l_2, l_3, l_4, l_5, l_6, l_7, l_8, l_9, l_10, l_11, l_12, l_13, l_14, l_15, l_16, l_17, l_18, l_19, l_20, l_21, l_22, l_23, l_24, l_25, l_26, l_27, l_28, l_29, l_30, l_31, l_32, l_40, l_41, l_42, l_43, l_44, l_45, l_46, l_47, l_48, l_49, l_50, l_51, l_52, l_53, l_54, l_55, l_56, l_57, l_58, l_59, l_60, l_61, l_62, l_63, l_64, l_72, l_97, l_99, l_100, l_104, l_120, l_122, l_128, l_140, l_255, l_256, l_257, l_258, l_260, l_261, l_262, l_364, l_680, l_700, l_701, l_840, l_999, l_1023, l_1024, l_9999, l_10000, l_1000000, lm]
    simp (disch := first | (with_reducible assumption) | omega | exact ⟨by omega, by omega⟩ | ((with_reducible first | apply Wf.wI | apply Wf.wL | apply Wf.fL | apply Wf.fI | apply Wf.fr); (repeat (with_reducible first | assumption | apply Wf.wI | apply Wf.wL | apply Wf.fL | apply Wf.fI | apply Wf.fr)))) only [ck_225, gI_225, gL_225, pI_225, pZ0_225, pZ1_225, pL_225, gR_225_1, gR_225_3, gR_225_4, gR_225_5, gR_225_6, gR_225_7, gR_225_8, gR_225_9, gR_225_10, gR_225_11, gR_225_12, gR_225_13, gR_225_14, gR_225_15, gR_225_16, gR_225_17, gR_225_18, gR_225_19, gR_225_20, gR_225_21, gR_225_35, gR_225_36, gR_225_38, gR_225_39, gR_225_40, gR_225_41, gR_225_43, gR_225_44, gR_225_45, gR_225_48, gR_225_49, gR_225_50, gR_225_51, gR_225_53, gR_225_54, gR_225_55, gR_225_56, gR_225_58, gR_225_59, gR_225_60, gR_225_61, gR_225_62, gR_225_63, gR_225_66, gR_225_67, bq_s, bd_s, mp_s, rz_0, rz_1, bI_rz, zadd, zmul, zsub, le_nI, lt_nI, eq_nI, neg_nI, gen_nI, neg_lt, neg_le, neg_lt', neg_le', nI_lt0, if_true, if_false, ite_true, ite_false, reduceIte, not_true, not_false, and_true, true_and, and_false, false_and, or_true, true_or, or_false, false_or, eq_self, aI_227, rd_N h, show (nR D ≤ k) = False from eq_false (by omega)]
    have hk4 : k < nR D := by omega
    obtain ⟨ρ, g1, g2, g3, g4⟩ := m_fl33 h (hs0.xc b1.1 hfr) (M := M) (G := fun o q => lim cp o (FF D st cp k o q)) hc hk4 hM (by
      intro o ho hx q hq
      have hoc : o ≠ c := fun e1 => hs0.nxn h0.t hc (e1 ▸ hx)
      rw [hfr.L (by unfold Xc; have := atf_in (c := o) (r := k) (t := q) (k := c) (by omega) hq hoc; omega)]
      exact (hch o ho hx k hk4 q hq).1) (by
      intro o q ho
      exact Nat.le_trans (lim_le _ _) (FF_b h.t hk4 ho)) (fun t => FF D st cp k c t) (fun t _ => FF_fx hH) (f_X12_flowOf_19 fu) 30 0 5000 τ (by omega) (by omega) Fr.rfl
    obtain ⟨ρ2, k1, k2, k3, k4⟩ := ih (k + 1) fu ρ (by omega) (by omega) (hfr.trans g2)
    refine ⟨ρ2, g1.trans k1, g2.trans k2, ?_, ?_⟩
    · intro r h1 h2 t h3
      by_cases q : r = k
      · subst q
        obtain ⟨p1, p2⟩ := g3 t (by omega) h3
        rw [k4 _ _ (by unfold atf; omega), k4 _ _ (by unfold atf; omega), p1, p2]
        unfold lim
        constructor <;> (congr 1; omega)
      · exact k3 r (by omega) h2 t h3
    · intro a j hj
      rw [k4 a j (by unfold atf at hj ⊢; omega), g4 a j (by unfold atf at hj ⊢; omega)]
/-- what the flows write -/
def Xr (a j : Nat) : Prop := a = 225 ∧ j = 37 ∨ a = 246 ∨ a = 247 ∨ 252 ≤ a ∧ a ≤ 254
theorem Xr_q : ∀ a j, Xr a j → Xq a j := by
  intro a j h; unfold Xr at h; unfold Xq; omega
def Xo (c a j : Nat) : Prop := Xv a j ∨ Xc c a j
theorem Xo_r {c : Nat} : ∀ a j, Xo c a j → Xr a j := by
  intro a j h; unfold Xo Xv Xc at h; unfold Xr; omega
theorem StR.xr {τ : ah_H} (h : StR σ D e st) (hC : nC D ≤ 7) (g : Fr Xr σ τ) : StR τ D e st := h.fr g hC (by unfold Xr; omega) (fun _ _ => by unfold Xr; omega)
theorem m_fl15 (h : MInv σ D) (hs : StR σ D e st) {c : Nat} {M : Int} (hc : c < nC D) (hM : 0 ≤ M ∧ M ≤ 4000000000000000000) (hcp : ((cp c : Nat) : Int) = M) (hch : ∀ o, o < nC D → nx D st o = some c → GV σ D st cp o) (hH : Hd (nx D st) (nC D) (nC D) c) : Ok (f_X12_flowOf_15 225 (nI c) (iL M) σ) (fun ρ => Fr (Xc c) σ ρ ∧ GV ρ D st cp c) := by
  have b1 := h.bd
  obtain ⟨ρ, g1, g2, g3, -⟩ := m_fl19 h hs hc hM hcp hch hH (nR D) 0 5000 σ (by omega) (by omega) Fr.rfl
  exact ⟨ρ, g1, g2, fun r hr t ht => g3 r (by omega) hr t ht⟩
def plain (_ : Nat) : Nat := 4000000000000000000
theorem m_flow0 (h : MInv σ D) (hs : StR σ D e st) {c : Nat} (hc : c < nC D) (hch : ∀ o, o < nC D → nx D st o = some c → GV σ D st plain o) (hH : Hd (nx D st) (nC D) (nC D) c) : Ok (f_X12_flowOf 225 (nI c) (nI 0) σ) (fun ρ => Fr (Xo c) σ ρ ∧ GV ρ D st plain c) := by
  have hw := h.w
  unfold f_X12_flowOf f_X12_flowOf_0
  simp only [to_bq, l_0, l_1, l_2, l_3, l_4, l_5, l_6, l_7, l_8, l_9, l_10, l_11, l_12, l_13, l_14, l_15, l_16, l_17, l_18, l_19, l_20, l_21, l_22, l_23, l_24, l_25, l_26, l_27, l_28, l_29, l_30, l_31, l_32, l_40, l_41, l_42, l_43, l_44, l_45, l_46, l_47, l_48, l_49, l_50, l_51, l_52, l_53, l_54, l_55, l_56, l_57, l_58, l_59, l_60, l_61, l_62, l_63, l_64, l_72, l_97, l_99, l_100, l_104, l_120, l_122, l_128, l_140, l_255, l_256, l_257, l_258, l_260, l_261, l_262, l_364, l_680, l_700, l_701, l_840, l_999, l_1023, l_1024, l_9999, l_10000, l_1000000, lm]
  simp (disch := first | (with_reducible assumption) | omega | exact ⟨by omega, by omega⟩ | ((with_reducible first | apply Wf.wI | apply Wf.wL | apply Wf.fL | apply Wf.fI | apply Wf.fr); (repeat (with_reducible first | assumption | apply Wf.wI | apply Wf.wL | apply Wf.fL | apply Wf.fI | apply Wf.fr)))) only [ck_225, gI_225, gL_225, pI_225, pZ0_225, pZ1_225, pL_225, gR_225_1, gR_225_3, gR_225_4, gR_225_5, gR_225_6, gR_225_7, gR_225_8, gR_225_9, gR_225_10, gR_225_11, gR_225_12, gR_225_13, gR_225_14, gR_225_15, gR_225_16, gR_225_17, gR_225_18, gR_225_19, gR_225_20, gR_225_21, gR_225_35, gR_225_36, gR_225_38, gR_225_39, gR_225_40, gR_225_41, gR_225_43, gR_225_44, gR_225_45, gR_225_48, gR_225_49, gR_225_50, gR_225_51, gR_225_53, gR_225_54, gR_225_55, gR_225_56, gR_225_58, gR_225_59, gR_225_60, gR_225_61, gR_225_62, gR_225_63, gR_225_66, gR_225_67, if_true, if_false, ite_true, ite_false, reduceIte, not_true, not_false, and_true, true_and, and_false, false_and, or_true, true_or, or_false, false_or, eq_self, q_4000000000000000000]
  exact (m_fl15 (M := 4000000000000000000) h hs hc ⟨by omega, by omega⟩ rfl hch hH).mono (fun ρ g => ⟨g.1.mono (fun a j q => Or.inr q), g.2⟩)
/-- falls, and what a pipe laid carries -/
def fallZ (D : DD) (c s : Nat) : Int := (hgt D c : Int) - ix (D 250 c) - hgt D (oth D s c) + ix (D 251 c)
theorem sFall_z (ht : MT D) (hn : MN D) {c s : Nat} (hc : c < 7) (hx : stD D c = some s) : sFall D c s = jI (fallZ D c s) ∧ -3000 ≤ fallZ D c s ∧ fallZ D c s ≤ 3000 := by
  obtain ⟨h1, h2, h3, h4, h5, h6, ⟨a, ha, ea⟩, ⟨b, hb, eb⟩⟩ := hn.laid ht hc hx
  have g1 := ht.qhgt9 h1
  have ho := ht.qoth (c := c) h3
  have g2 := ht.qhgt9 ho
  unfold sFall sFallBy fallZ
  rw [ht.qhgt h1, ht.qhgt ho, ea, eb, ix_nI (by omega), ix_nI (by omega), jI_n, jI_n, jI_n, jI_n, jsub, jsub, jadd]
  exact ⟨rfl, by omega, by omega⟩
def carD (D : DD) (c : Nat) : Int := match stD D c with
  | some s => carv D (wid D (ix (D 249 c))) ((fallZ D c s).tdiv (len D s))
  | none => 0
theorem carD_b (ht : MT D) (hn : MN D) {c : Nat} (hc : c < 7) : 0 ≤ carD D c ∧ carD D c ≤ 1000000000000 := by
  unfold carD
  cases hx : stD D c with
  | none => exact ⟨Int.le_refl 0, (by decide : (0 : Int) ≤ 1000000000000)⟩
  | some s =>
    obtain ⟨h1, h2, h3, h4, h5, ⟨p, hp, ep⟩, -, -⟩ := hn.laid ht hc hx
    have hp4 := ht.qp4
    obtain ⟨-, g1, g2⟩ := sFall_z ht hn hc hx
    have g3 := tdiv_b (n := len D s) ⟨g1, g2⟩
    show 0 ≤ carv D (wid D (ix (D 249 c))) _ ∧ carv D (wid D (ix (D 249 c))) _ ≤ _
    rw [ep, ix_nI (by omega)]
    exact carv_b ht (ht.qwid99 hp) ⟨by omega, by omega⟩
theorem m_carriesOf (h : MInv σ D) (hn : ah_I σ 225 42 = nI 0) {c s : Nat} (hc : c < nC D) (hx : stD D c = some s) : Ok (f_X12_carriesOf 225 (nI c) σ) (fun r => r.1 = iL (carD D c) ∧ Fr Xv σ r.2) := by
  have hw := h.w
  have b1 := h.bd
  have hst := h.st0 hn
  obtain ⟨h1, h2, h3, h4, h5, ⟨p, hp, ep⟩, -, -⟩ := h.n.laid h.t (show c < 7 by omega) hx
  obtain ⟨g0, g1, g2⟩ := sFall_z h.t h.n (show c < 7 by omega) hx
  have e1 : ah_I σ 249 (7 * 0 + c) = nI p := by rw [Nat.mul_zero, Nat.zero_add, h.at (by unfold PM; omega)]; exact ep
  unfold f_X12_carriesOf f_X12_carriesOf_0
  simp only [to_bq, l_0, l_1, l_2, l_3, l_4, l_5, l_6, l_7, l_8, l_9, l_10, l_11, l_12, l_13, l_14, l_15, l_16, l_17, l_18, l_19, l_20, l_21, l_22, l_23, l_24, l_25, l_26, l_27, l_28, l_29, l_30, l_31, l_32, l_40, l_41, l_42, l_43, l_44, l_45, l_46, l_47, l_48, l_49, l_50, l_51, l_52, l_53, l_54, l_55, l_56, l_57, l_58, l_59, l_60, l_61, l_62, l_63, l_64, l_72, l_97, l_99, l_100, l_104, l_120, l_122, l_128, l_140, l_255, l_256, l_257, l_258, l_260, l_261, l_262, l_364, l_680, l_700, l_701, l_840, l_999, l_1023, l_1024, l_9999, l_10000, l_1000000, lm]
  simp (disch := first | (with_reducible assumption) | omega | exact ⟨by omega, by omega⟩ | ((with_reducible first | apply Wf.wI | apply Wf.wL | apply Wf.fL | apply Wf.fI | apply Wf.fr); (repeat (with_reducible first | assumption | apply Wf.wI | apply Wf.wL | apply Wf.fL | apply Wf.fI | apply Wf.fr)))) only [ck_225, gI_225, gL_225, pI_225, pZ0_225, pZ1_225, pL_225, gR_225_1, gR_225_3, gR_225_4, gR_225_5, gR_225_6, gR_225_7, gR_225_8, gR_225_9, gR_225_10, gR_225_11, gR_225_12, gR_225_13, gR_225_14, gR_225_15, gR_225_16, gR_225_17, gR_225_18, gR_225_19, gR_225_20, gR_225_21, gR_225_35, gR_225_36, gR_225_38, gR_225_39, gR_225_40, gR_225_41, gR_225_43, gR_225_44, gR_225_45, gR_225_48, gR_225_49, gR_225_50, gR_225_51, gR_225_53, gR_225_54, gR_225_55, gR_225_56, gR_225_58, gR_225_59, gR_225_60, gR_225_61, gR_225_62, gR_225_63, gR_225_66, gR_225_67, bq_s, bd_s, mp_s, rz_0, rz_1, bI_rz, m_pipeOf hw hn (show 0 ≤ 1 by omega) (show c < 7 by omega), e1, m_streetOf h hst hc, hx, show sv (some s) = nI s from rfl, m_fallOf h hn hc hx, g0]
  obtain ⟨⟨r1, r2⟩, k1, k2, k3⟩ := m_carriesBy h hp h3 ⟨g1, g2⟩
  rw [k1]
  refine ⟨_, rfl, ?_, k3⟩
  have k2 : r1 = _ := k2
  rw [k2]
  unfold carD
  rw [hx]
  show _ = iL (carv D (wid D (ix (D 249 c))) _)
  rw [ep, ix_nI (by omega)]
def capD (D : DD) (c : Nat) : Nat := (carD D c).toNat
theorem m_flow1 (h : MInv σ D) (hn : ah_I σ 225 42 = nI 0) {c s : Nat} (hc : c < nC D) (hx : stD D c = some s) (hch : ∀ o, o < nC D → nx D (stD D) o = some c → GV σ D (stD D) (capD D) o) (hH : Hd (nx D (stD D)) (nC D) (nC D) c) : Ok (f_X12_flowOf 225 (nI c) (nI 1) σ) (fun ρ => Fr (Xo c) σ ρ ∧ GV ρ D (stD D) (capD D) c) := by
  have hw := h.w
  have b1 := h.bd
  obtain ⟨c0, c1⟩ := carD_b h.t h.n (show c < 7 by omega)
  unfold f_X12_flowOf f_X12_flowOf_0
  simp only [to_bq, l_0, l_1, l_2, l_3, l_4, l_5, l_6, l_7, l_8, l_9, l_10, l_11, l_12, l_13, l_14, l_15, l_16, l_17, l_18, l_19, l_20, l_21, l_22, l_23, l_24, l_25, l_26, l_27, l_28, l_29, l_30, l_31, l_32, l_40, l_41, l_42, l_43, l_44, l_45, l_46, l_47, l_48, l_49, l_50, l_51, l_52, l_53, l_54, l_55, l_56, l_57, l_58, l_59, l_60, l_61, l_62, l_63, l_64, l_72, l_97, l_99, l_100, l_104, l_120, l_122, l_128, l_140, l_255, l_256, l_257, l_258, l_260, l_261, l_262, l_364, l_680, l_700, l_701, l_840, l_999, l_1023, l_1024, l_9999, l_10000, l_1000000, lm]
  simp (disch := first | (with_reducible assumption) | omega | exact ⟨by omega, by omega⟩ | ((with_reducible first | apply Wf.wI | apply Wf.wL | apply Wf.fL | apply Wf.fI | apply Wf.fr); (repeat (with_reducible first | assumption | apply Wf.wI | apply Wf.wL | apply Wf.fL | apply Wf.fI | apply Wf.fr)))) only [ck_225, gI_225, gL_225, pI_225, pZ0_225, pZ1_225, pL_225, gR_225_1, gR_225_3, gR_225_4, gR_225_5, gR_225_6, gR_225_7, gR_225_8, gR_225_9, gR_225_10, gR_225_11, gR_225_12, gR_225_13, gR_225_14, gR_225_15, gR_225_16, gR_225_17, gR_225_18, gR_225_19, gR_225_20, gR_225_21, gR_225_35, gR_225_36, gR_225_38, gR_225_39, gR_225_40, gR_225_41, gR_225_43, gR_225_44, gR_225_45, gR_225_48, gR_225_49, gR_225_50, gR_225_51, gR_225_53, gR_225_54, gR_225_55, gR_225_56, gR_225_58, gR_225_59, gR_225_60, gR_225_61, gR_225_62, gR_225_63, gR_225_66, gR_225_67, zadd, zmul, zsub, le_nI, lt_nI, eq_nI, neg_nI, gen_nI, neg_lt, neg_le, neg_lt', neg_le', nI_lt0, Nat.reduceEqDiff, Nat.reduceAdd, Nat.reduceMul, Nat.reduceSub, Nat.reduceLT, Nat.reduceLeDiff, Nat.add_sub_cancel, Nat.zero_add, Nat.add_zero, Nat.mul_zero, Nat.zero_mul, if_true, if_false, ite_true, ite_false, reduceIte, not_true, not_false, and_true, true_and, and_false, false_and, or_true, true_or, or_false, false_or, eq_self]
  obtain ⟨⟨r1, r2⟩, k1, k2, k3⟩ := m_carriesOf h hn hc hx
  rw [k1, bq_s]
  have k2 : r1 = _ := k2
  subst k2
  have h' : MInv r2 D := h.q (k3.mono Xv_q)
  have hn' : ah_I r2 225 42 = nI 0 := (k3.I (by unfold Xv; omega)).trans hn
  refine (m_fl15 h' (h'.st0 hn') hc ⟨c0, by omega⟩ (show ((capD D c : Nat) : Int) = carD D c by unfold capD; omega) (fun o ho hx => (hch o ho hx).fr (fun a j _ _ _ _ => k3.L (by unfold Xv; omega)) b1.2.2.2.1) hH).mono (fun ρ g => ⟨(k3.mono (fun a j q => Or.inl q)).trans (g.1.mono (fun a j q => Or.inr q)), g.2⟩)
end
