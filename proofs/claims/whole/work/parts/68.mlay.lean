/-! THE REFERENCE: the table of a corner -/
/-- what a pipe may be, and its cost and key -/
noncomputable def own (D : DD) (st : Nat → Option Nat) (Q : Nat → Int) (F1 F2 F3 : Nat → Int32) (ky : Nat → Nat → Nat → Nat → Nat) (c w a b : Nat) : VV := match st c with
  | none => none
  | some s => cif (w < nP D ∧ lc D ≤ a ∧ a ≤ mc D ∧ lc D ≤ b ∧ b ≤ mc D ∧ fx (F1 c) w ∧ fx (F2 c) a ∧ fx (F3 c) b ∧ (len D s * lf D : Int) ≤ fallv D c s a b ∧ fallv D c s a b ≤ (len D s * mf D : Int) ∧ Q c ≤ carv D (wid D w) ((fallv D c s a b).tdiv (len D s))) (some ((costv D c w s a b).toNat, ky c w a b)) none
section
variable {σ : ah_H} {D : DD} {T : Tbl} {w a e c s : Nat} {st : Nat → Option Nat} {p : DPr} {Q : Nat → Int} {F1 F2 F3 : Nat → Int32} {ky : Nat → Nat → Nat → Nat → Nat}
theorem costv_b (ht : MT D) {b : Nat} (hs : s < nS D) (hw : w < nP D) (ha : a ≤ 12) (hb : b ≤ 12) : 0 ≤ costv D c w s a b ∧ costv D c w s a b ≤ 99000000009801 := by
  have h1 := digv_b ht (w := wid D w) (d := (a + b) / 2) (r := (a + b) / 2 - rck D c) (ht.qwid99 hw) (by omega) (by omega)
  have h2 := ht.qlen99 hs
  have h3 := ht.qpri99 hw
  unfold costv
  generalize digv D (wid D w) ((a + b) / 2) ((a + b) / 2 - rck D c) = z at *
  have h4 : 0 ≤ (pri D w : Int) + z ∧ (pri D w : Int) + z ≤ 1000000000099 := by omega
  generalize (pri D w : Int) + z = y at *
  constructor
  · exact Int.mul_nonneg (by omega) h4.1
  · have : (len D s : Int) * y ≤ 99 * y := Int.mul_le_mul_of_nonneg_right (by omega) h4.1
    omega
theorem own_b (ht : MT D) (hst : ∀ s, st c = some s → s < nS D) {b : Nat} : vb (own D st Q F1 F2 F3 ky c w a b) 99000000009801 := by
  have b1 := ht.qmc12
  unfold own
  cases e : st c with
  | none => exact vb_none _
  | some s =>
    intro x hx
    have hx : cif _ _ _ = some x := hx
    by_cases q : (w < nP D ∧ lc D ≤ a ∧ a ≤ mc D ∧ lc D ≤ b ∧ b ≤ mc D ∧ fx (F1 c) w ∧ fx (F2 c) a ∧ fx (F3 c) b ∧ (len D s * lf D : Int) ≤ fallv D c s a b ∧ fallv D c s a b ≤ (len D s * mf D : Int) ∧ Q c ≤ carv D (wid D w) ((fallv D c s a b).tdiv (len D s)))
    · rw [cif_t q] at hx
      cases hx
      have := costv_b ht (c := c) (w := w) (s := s) (a := a) (b := b) (hst s e) q.1 (by omega) (by omega)
      show (costv D c w s a b).toNat ≤ _
      omega
    · rw [cif_f q] at hx; cases hx
theorem own_no (h : ¬ (w < nP D ∧ lc D ≤ a ∧ a ≤ mc D)) (b : Nat) : own D st Q F1 F2 F3 ky c w a b = none := by
  unfold own
  cases e : st c with
  | none => rfl
  | some s => exact cif_f (fun z => h ⟨z.1, z.2.1, z.2.2.1⟩) _ _
theorem own_nb {b : Nat} (h : ¬ (lc D ≤ b ∧ b ≤ mc D)) : own D st Q F1 F2 F3 ky c w a b = none := by
  unfold own
  cases e : st c with
  | none => rfl
  | some s => exact cif_f (fun z => h ⟨z.2.2.2.1, z.2.2.2.2.1⟩) _ _
theorem own_n1 (h : ¬ fx (F1 c) w) (b : Nat) : own D st Q F1 F2 F3 ky c w a b = none := by
  unfold own
  cases e : st c with
  | none => rfl
  | some s => exact cif_f (fun z => h z.2.2.2.2.2.1) _ _
theorem own_n2 (h : ¬ fx (F2 c) a) (b : Nat) : own D st Q F1 F2 F3 ky c w a b = none := by
  unfold own
  cases e : st c with
  | none => rfl
  | some s => exact cif_f (fun z => h z.2.2.2.2.2.2.1) _ _
def Xlc (c a j : Nat) : Prop := Xv a j ∨ a = 264 ∧ c * 52 ≤ j ∧ j < c * 52 + 52
theorem Xlc_q : ∀ a j, Xlc c a j → Xq a j := by
  intro a j h
  rcases h with h | h
  · exact Xv_q a j h
  · unfold Xq; omega
theorem Xv_l : ∀ a j, Xv a j → Xlc c a j := fun _ _ h => Or.inl h
/-- all that the table of a corner rests on -/
def LyC (σ : ah_H) (D : DD) (e : Nat) (st : Nat → Option Nat) (p : DPr) (T : Tbl) (Q : Nat → Int) (F1 F2 F3 : Nat → Int32) (ky : Nat → Nat → Nat → Nat → Nat) (c s : Nat) : Prop := MInv σ D ∧ StR σ D e st ∧ Pq p D st Q ∧ dpo p = own D st Q F1 F2 F3 ky ∧ c < nC D ∧ st c = some s ∧ Kid σ D st T c ∧ Qr σ Q c ∧ ah_I σ 266 c = F1 c ∧ ah_I σ 267 c = F2 c ∧ ah_I σ 268 c = F3 c
theorem LyC.fr {τ : ah_H} (h : LyC σ D e st p T Q F1 F2 F3 ky c s) (g : Fr (Xlc c) σ τ) : LyC τ D e st p T Q F1 F2 F3 ky c s := by
  obtain ⟨h1, h2, h3, h4, h5, h6, h7, h8, h9, h10, h11⟩ := h
  have hx : ∀ a j, a ≠ 264 → ¬ Xv a j → ¬ Xlc c a j := fun a j q1 q2 z => z.elim q2 (fun z => q1 z.1)
  refine ⟨h1.q (g.mono Xlc_q), h2.fr g h1.bd.1 (hx _ _ (by omega) (by unfold Xv; omega)) (fun j _ => hx _ _ (by omega) (by unfold Xv; omega)), h3, h4, h5, h6, fun o ho hox v b hv hb => ?_, ⟨by rw [g.L (hx _ _ (by omega) (by unfold Xv; omega))]; exact h8.1, h8.2⟩, by rw [g.I (hx _ _ (by omega) (by unfold Xv; omega))]; exact h9, by rw [g.I (hx _ _ (by omega) (by unfold Xv; omega))]; exact h10, by rw [g.I (hx _ _ (by omega) (by unfold Xv; omega))]; exact h11⟩
  have hoc : o ≠ c := fun z => h2.nxn h1.t h5 (by rw [← z]; rw [z]; rw [z] at hox; exact hox)
  rw [g.L (by unfold Xlc Xv; omega)]
  exact h7 o ho hox v b hv hb
def RowG (τ : ah_H) (c : Nat) (g : Nat → Nat → VV) : Prop := ∀ v b, v < 4 → b < 13 → ah_L τ 264 ((c * 4 + v) * 13 + b) = iL (lv (g v b)) ∧ vb (g v b) 20000000000000000
theorem RowG.fr {τ τ' : ah_H} {g : Nat → Nat → VV} (h : RowG τ c g) (f : Fr Xv τ τ') : RowG τ' c g := fun v b hv hb => by
  rw [f.L (by unfold Xv; omega)]; exact h v b hv hb
theorem RowG.cg {τ : ah_H} {g g' : Nat → Nat → VV} (h : RowG τ c g) (e : ∀ v b, v < 4 → b < 13 → g' v b = g v b) : RowG τ c g' := fun v b hv hb => by
  rw [e v b hv hb]; exact h v b hv hb
theorem RowG.set {τ : ah_H} {g : Nat → Nat → VV} {v0 b0 : Nat} {x : VV} (h : RowG τ c g) (hv0 : v0 < 4) (hb0 : b0 < 13) (hx : vb x 20000000000000000) : RowG (ah_wL τ 264 ((c * 4 + v0) * 13 + b0) (iL (lv x))) c (fun v b => if v = v0 ∧ b = b0 then x else g v b) := by
  intro v b hv hb
  by_cases q : v = v0 ∧ b = b0
  · show _ = iL (lv (if v = v0 ∧ b = b0 then x else g v b)) ∧ vb (if v = v0 ∧ b = b0 then x else g v b) _
    rw [if_pos q, q.1, q.2, rL_eq]
    exact ⟨rfl, hx⟩
  · show _ = iL (lv (if v = v0 ∧ b = b0 then x else g v b)) ∧ vb (if v = v0 ∧ b = b0 then x else g v b) _
    rw [if_neg q, rL_ne (by omega)]
    exact h v b hv hb
theorem sFallBy_z (ht : MT D) {b : Nat} (hc : c < nC D) (hs : s < nS D) (ha : a ≤ 12) (hb : b ≤ 12) : sFallBy D c s (nI a) (nI b) = jI (fallv D c s a b) ∧ -3000 ≤ fallv D c s a b ∧ fallv D c s a b ≤ 3000 := by
  have ho := ht.qoth (c := c) hs
  have h1 := ht.qhgt9 hc
  have h2 := ht.qhgt9 ho
  refine ⟨?_, by unfold fallv; omega, by unfold fallv; omega⟩
  unfold sFallBy fallv
  rw [ht.qhgt hc, ht.qhgt ho, jI_n, jI_n, jI_n, jI_n, jsub, jsub, jadd]
/-- one place of the table -/
noncomputable def layE (p : DPr) (T : Tbl) (c w b a : Nat) : VV := vadd (behT p T c w a) (dpo p c w a b)
theorem beh_b (h : LyC σ D e st p T Q F1 F2 F3 ky c s) (hw : w < 4) (ha : a < 13) : vb (behT p T c w a) 9000000000000000 := by
  obtain ⟨h1, h2, h3, h4, h5, h6, h7, h8, -⟩ := h
  have := h1.bd
  unfold behT
  refine vb_min (chs_b h1.t h3 h7 hw ha) (vb_mn _ (fun m hm => ?_))
  rw [h3.2.1] at hm
  exact behF_b h1.t h3 h7 h8.2 hw (by omega)
theorem layE_b (h : LyC σ D e st p T Q F1 F2 F3 ky c s) {b : Nat} (hw : w < 4) (ha : a < 13) : vb (layE p T c w b a) 10000000000000000 := by
  refine vb_mono (vb_add (beh_b h hw ha) (show vb (dpo p c w a b) 99000000009801 from ?_)) (by omega)
  rw [h.2.2.2.1]
  exact own_b h.1.t (fun s' hs' => (h.2.1.2.2 c h.2.2.2.2.1).2 s' hs')
/-- the table while depths ahead of a are done -/
noncomputable def layG (p : DPr) (T : Tbl) (c w a v b : Nat) : VV := if v < w then layT p T c v b else if v = w then vmn (layE p T c w b) a else none
theorem m_lay118 {K38 : Nat → Int32 → Int32 → Int32 → ah_H → Option (ah_H)} {K57 : Nat → Int32 → Int32 → Int32 → Int32 → ah_H → Option (ah_H)} (h0 : LyC σ D e st p T Q F1 F2 F3 ky c s) (hw : w < nP D) (hal : lc D ≤ a) (ham : a ≤ mc D) (hf1 : fx (F1 c) w) (hf2 : fx (F2 c) a) : ∀ i b fu τ, b + i = mc D + 1 → i < fu → lc D ≤ b → Fr (Xlc c) σ τ → RowG τ c (fun v b' => if v = w ∧ b' < b then layG p T c w (a + 1) v b' else layG p T c w a v b') → ∃ τ', f_X12_layCorner_118 K38 K57 fu 225 (nI c) (nI s) (nI w) (nI a) (iL (lv (behT p T c w a))) (nI b) τ = K57 225 (nI c) (nI s) (nI w) (nI (a + 1)) τ' ∧ Fr (Xlc c) σ τ' ∧ RowG τ' c (layG p T c w (a + 1)) := by
  have hb := h0.1.bd
  have hbb := beh_b (w := w) (a := a) h0 (by omega) (by omega)
  have hss := (h0.2.1.2.2 c h0.2.2.2.2.1).2 s h0.2.2.2.2.2.1
  have hnext : ∀ b, layG p T c w (a + 1) w b = vmin (layG p T c w a w b) (layE p T c w b a) := fun b => by
    unfold layG
    rw [if_neg (by omega), if_pos rfl, if_neg (by omega), if_pos rfl]
    rfl
  have hother : ∀ v b, v ≠ w → layG p T c w (a + 1) v b = layG p T c w a v b := fun v b hv => by
    unfold layG
    by_cases q : v < w
    · rw [if_pos q, if_pos q]
    · rw [if_neg q, if_neg hv, if_neg q, if_neg hv]
  have hout : ∀ b, ¬ (lc D ≤ b ∧ b ≤ mc D) → layG p T c w (a + 1) w b = layG p T c w a w b := fun b hx => by
    rw [hnext, show layE p T c w b a = none by unfold layE; rw [h0.2.2.2.1, own_nb hx, vadd_n], vmin_n]
  intro i
  induction i with
  | zero =>
    intro b fu τ hb' hf hlb g hr
    obtain ⟨fu, rfl⟩ : ∃ q, fu = q + 1 := ⟨fu - 1, by omega⟩
    have h := h0.fr g
    have hW := h.1.w
    refine ⟨τ, ?_, g, hr.cg (fun v b' hv hb2 => ?_)⟩
    · show f_X12_layCorner_118_b _ _ _ _ _ _ _ _ _ _ _ = _
      unfold f_X12_layCorner_118_b f_X12_layCorner_271
      simp only [to_bq, l_0, l_1, l_2, l_3, l_4, l_5, l_6, l_7, l_8, l_9, l_10, l_11, l_12, l_13, l_14, l_15, l_16, l_17, l_18, l_19, l_20, l_21, l_22, l_23, l_24, l_25, l_26, l_27, l_28, l_29, l_30, l_31, l_32, l_40, l_41, l_42, l_43, l_44, l_45, l_46, l_47, l_48, l_49, l_50, l_51, l_52, l_53, l_54, l_55, l_56, l_57, l_58, l_59, l_60, l_61, l_62, l_63, l_64, l_72, l_97, l_99, l_100, l_104, l_120, l_122, l_128, l_140, l_255, l_256, l_257, l_258, l_260, l_261, l_262, l_364, l_680, l_700, l_701, l_840, l_999, l_1023, l_1024, l_9999, l_10000, l_1000000, lm]
      simp (disch := first | (with_reducible assumption) | omega | exact ⟨by omega, by omega⟩ | ((with_reducible first | apply Wf.wI | apply Wf.wL | apply Wf.fL | apply Wf.fI | apply Wf.fr); (repeat (with_reducible first | assumption | apply Wf.wI | apply Wf.wL | apply Wf.fL | apply Wf.fI | apply Wf.fr)))) only [ck_225, gI_225, gL_225, pI_225, pZ0_225, pZ1_225, pL_225, gR_225_1, gR_225_3, gR_225_4, gR_225_5, gR_225_6, gR_225_7, gR_225_8, gR_225_9, gR_225_10, gR_225_11, gR_225_12, gR_225_13, gR_225_14, gR_225_15, gR_225_16, gR_225_17, gR_225_18, gR_225_19, gR_225_20, gR_225_21, gR_225_35, gR_225_36, gR_225_38, gR_225_39, gR_225_40, gR_225_41, gR_225_43, gR_225_44, gR_225_45, gR_225_48, gR_225_49, gR_225_50, gR_225_51, gR_225_53, gR_225_54, gR_225_55, gR_225_56, gR_225_58, gR_225_59, gR_225_60, gR_225_61, gR_225_62, gR_225_63, gR_225_66, gR_225_67, bq_n, bd_s, mp_s, rz_0, rz_1, bI_rz, zadd, zmul, zsub, le_nI, lt_nI, eq_nI, neg_nI, gen_nI, neg_lt, neg_le, neg_lt', neg_le', nI_lt0, if_true, if_false, ite_true, ite_false, reduceIte, not_true, not_false, and_true, true_and, and_false, false_and, or_true, true_or, or_false, false_or, eq_self, aI_227, rd_mc h.1, show (mc D < b) = True from eq_true (by omega)]
    · by_cases q : v = w ∧ b' < b
      · rw [if_pos q]
      · rw [if_neg q]
        by_cases q2 : v = w
        · rw [q2]; exact hout b' (by omega)
        · exact hother v b' q2
  | succ i ih =>
    intro b fu τ hb' hf hlb g hr
    obtain ⟨fu, rfl⟩ : ∃ q, fu = q + 1 := ⟨fu - 1, by omega⟩
    have h := h0.fr g
    have hW := h.1.w
    obtain ⟨k1, k2, k3, k4, k5, k6, k7, k8, k9, k10, k11⟩ := h
    have hlv := lv_b hbb (by decide)
    -- the place stays
    have stay : ∀ τ', Fr Xv τ τ' → layE p T c w b a = none → f_X12_layCorner_118_b K38 K57 (f_X12_layCorner_118 K38 K57 fu) 225 (nI c) (nI s) (nI w) (nI a) (iL (lv (behT p T c w a))) (nI b) τ = f_X12_layCorner_118 K38 K57 fu 225 (nI c) (nI s) (nI w) (nI a) (iL (lv (behT p T c w a))) (nI (b + 1)) τ' → ∃ τ', f_X12_layCorner_118_b K38 K57 (f_X12_layCorner_118 K38 K57 fu) 225 (nI c) (nI s) (nI w) (nI a) (iL (lv (behT p T c w a))) (nI b) τ = K57 225 (nI c) (nI s) (nI w) (nI (a + 1)) τ' ∧ Fr (Xlc c) σ τ' ∧ RowG τ' c (layG p T c w (a + 1)) := by
      intro τ' g' hn he
      rw [he]
      refine ih (b + 1) fu τ' (by omega) (by omega) (by omega) (g.trans (g'.mono Xv_l)) ((hr.fr g').cg (fun v b' hv hb2 => ?_))
      by_cases q2 : v = w
      · subst q2
        by_cases q3 : b' = b
        · subst q3
          rw [if_pos ⟨rfl, by omega⟩, if_neg (by omega), hnext, hn, vmin_n]
        · by_cases q4 : b' < b
          · rw [if_pos ⟨rfl, by omega⟩, if_pos ⟨rfl, q4⟩]
          · rw [if_neg (by omega), if_neg (by omega)]
      · rw [if_neg (fun z => q2 z.1), if_neg (fun z => q2 z.1)]
    show ∃ τ', f_X12_layCorner_118_b K38 K57 (f_X12_layCorner_118 K38 K57 fu) 225 (nI c) (nI s) (nI w) (nI a) (iL (lv (behT p T c w a))) (nI b) τ = _ ∧ _
    by_cases qn : behT p T c w a = none
    · -- nothing behind
      refine ⟨τ, ?_, g, hr.cg (fun v b' hv hb2 => ?_)⟩
      · unfold f_X12_layCorner_118_b f_X12_layCorner_271
        simp only [to_bq, l_0, l_1, l_2, l_3, l_4, l_5, l_6, l_7, l_8, l_9, l_10, l_11, l_12, l_13, l_14, l_15, l_16, l_17, l_18, l_19, l_20, l_21, l_22, l_23, l_24, l_25, l_26, l_27, l_28, l_29, l_30, l_31, l_32, l_40, l_41, l_42, l_43, l_44, l_45, l_46, l_47, l_48, l_49, l_50, l_51, l_52, l_53, l_54, l_55, l_56, l_57, l_58, l_59, l_60, l_61, l_62, l_63, l_64, l_72, l_97, l_99, l_100, l_104, l_120, l_122, l_128, l_140, l_255, l_256, l_257, l_258, l_260, l_261, l_262, l_364, l_680, l_700, l_701, l_840, l_999, l_1023, l_1024, l_9999, l_10000, l_1000000, lm]
        simp (disch := first | (with_reducible assumption) | omega | exact ⟨by omega, by omega⟩ | ((with_reducible first | apply Wf.wI | apply Wf.wL | apply Wf.fL | apply Wf.fI | apply Wf.fr); (repeat (with_reducible first | assumption | apply Wf.wI | apply Wf.wL | apply Wf.fL | apply Wf.fI | apply Wf.fr)))) only [ck_225, gI_225, gL_225, pI_225, pZ0_225, pZ1_225, pL_225, gR_225_1, gR_225_3, gR_225_4, gR_225_5, gR_225_6, gR_225_7, gR_225_8, gR_225_9, gR_225_10, gR_225_11, gR_225_12, gR_225_13, gR_225_14, gR_225_15, gR_225_16, gR_225_17, gR_225_18, gR_225_19, gR_225_20, gR_225_21, gR_225_35, gR_225_36, gR_225_38, gR_225_39, gR_225_40, gR_225_41, gR_225_43, gR_225_44, gR_225_45, gR_225_48, gR_225_49, gR_225_50, gR_225_51, gR_225_53, gR_225_54, gR_225_55, gR_225_56, gR_225_58, gR_225_59, gR_225_60, gR_225_61, gR_225_62, gR_225_63, gR_225_66, gR_225_67, bq_n, bd_s, mp_s, rz_0, rz_1, bI_rz, zadd, zmul, zsub, le_nI, lt_nI, eq_nI, neg_nI, gen_nI, neg_lt, neg_le, neg_lt', neg_le', nI_lt0, if_true, if_false, ite_true, ite_false, reduceIte, not_true, not_false, and_true, true_and, and_false, false_and, or_true, true_or, or_false, false_or, eq_self, q_0, q_1, q_100, q_9999, q_1000000000000, q_100000000000000000, q_4000000000000000000, q_4611686018427387903, q_9223372036854775807, iadd, isub, imul, ineg, cmp_e, cmp_le, cmp_lt, cmp_ge, cmp_gt, maxl_i, minl_i, absl_i, toL_n, ldiv_i, aI_227, rd_mc k1, show (mc D < b) = False from eq_false (by omega)]
        rw [if_pos (by rw [qn]; exact Int.le_refl _)]
      · by_cases q2 : v = w
        · subst q2
          have e1 : ∀ b, layG p T c v (a + 1) v b = layG p T c v a v b := fun b => by
            rw [hnext, show layE p T c v b a = none by unfold layE; rw [qn]; rfl, vmin_n]
          by_cases q3 : b' < b
          · rw [if_pos ⟨rfl, q3⟩]
          · rw [if_neg (by omega), e1]
        · rw [if_neg (fun z => q2 z.1), hother v b' q2]
    · have hlt : ¬ (4000000000000000000 : Int) ≤ lv (behT p T c w a) := fun z => qn ((lv_nev hbb (by decide)).mp z)
      cases hbe : behT p T c w a with
      | none => exact absurd hbe qn
      | some x =>
      rw [← hbe]
      obtain ⟨ef, ef1, ef2⟩ := sFallBy_z (a := a) (b := b) k1.t k5 hss (by omega) (by omega)
      have eo : layE p T c w b a = vadd (behT p T c w a) (cif (w < nP D ∧ lc D ≤ a ∧ a ≤ mc D ∧ lc D ≤ b ∧ b ≤ mc D ∧ fx (F1 c) w ∧ fx (F2 c) a ∧ fx (F3 c) b ∧ (len D s * lf D : Int) ≤ fallv D c s a b ∧ fallv D c s a b ≤ (len D s * mf D : Int) ∧ Q c ≤ carv D (wid D w) ((fallv D c s a b).tdiv (len D s))) (some ((costv D c w s a b).toNat, ky c w a b)) none) := by
        unfold layE
        rw [k4]
        unfold own
        rw [k6]
      have hl1 := k1.t.qlen99 hss
      have hQ := k8.2
      have hm1 : len D s * lf D ≤ 99 * 99 := Nat.mul_le_mul hl1 (by omega)
      have hm2 : len D s * mf D ≤ 99 * 99 := Nat.mul_le_mul hl1 (by omega)
      have j1 : (jI (fallv D c s a b) < nI (len D s * lf D)) = (fallv D c s a b < ((len D s * lf D : Nat) : Int)) := by
        rw [jI_n, jlt ⟨by omega, by omega⟩ ⟨by omega, by omega⟩]
      have j2 : (nI (len D s * mf D) < jI (fallv D c s a b)) = (((len D s * mf D : Nat) : Int) < fallv D c s a b) := by
        rw [jI_n, jlt ⟨by omega, by omega⟩ ⟨by omega, by omega⟩]
      have c1 : ((len D s * lf D : Nat) : Int) = (len D s : Int) * (lf D : Int) := Int.natCast_mul _ _
      have c2 : ((len D s * mf D : Nat) : Int) = (len D s : Int) * (mf D : Int) := Int.natCast_mul _ _
      by_cases q3 : fx (F3 c) b
      · by_cases q4 : fallv D c s a b < ((len D s * lf D : Nat) : Int)
        · refine stay τ Fr.rfl (by rw [eo, cif_f (fun z => by have := z.2.2.2.2.2.2.2.2.1; omega), vadd_n]) ?_
          unfold f_X12_layCorner_118_b f_X12_layCorner_265
          simp only [to_bq, l_0, l_1, l_2, l_3, l_4, l_5, l_6, l_7, l_8, l_9, l_10, l_11, l_12, l_13, l_14, l_15, l_16, l_17, l_18, l_19, l_20, l_21, l_22, l_23, l_24, l_25, l_26, l_27, l_28, l_29, l_30, l_31, l_32, l_40, l_41, l_42, l_43, l_44, l_45, l_46, l_47, l_48, l_49, l_50, l_51, l_52, l_53, l_54, l_55, l_56, l_57, l_58, l_59, l_60, l_61, l_62, l_63, l_64, l_72, l_97, l_99, l_100, l_104, l_120, l_122, l_128, l_140, l_255, l_256, l_257, l_258, l_260, l_261, l_262, l_364, l_680, l_700, l_701, l_840, l_999, l_1023, l_1024, l_9999, l_10000, l_1000000, lm]
          simp (disch := first | (with_reducible assumption) | omega | exact ⟨by omega, by omega⟩ | ((with_reducible first | apply Wf.wI | apply Wf.wL | apply Wf.fL | apply Wf.fI | apply Wf.fr); (repeat (with_reducible first | assumption | apply Wf.wI | apply Wf.wL | apply Wf.fL | apply Wf.fI | apply Wf.fr)))) only [ck_225, gI_225, gL_225, pI_225, pZ0_225, pZ1_225, pL_225, gR_225_1, gR_225_3, gR_225_4, gR_225_5, gR_225_6, gR_225_7, gR_225_8, gR_225_9, gR_225_10, gR_225_11, gR_225_12, gR_225_13, gR_225_14, gR_225_15, gR_225_16, gR_225_17, gR_225_18, gR_225_19, gR_225_20, gR_225_21, gR_225_35, gR_225_36, gR_225_38, gR_225_39, gR_225_40, gR_225_41, gR_225_43, gR_225_44, gR_225_45, gR_225_48, gR_225_49, gR_225_50, gR_225_51, gR_225_53, gR_225_54, gR_225_55, gR_225_56, gR_225_58, gR_225_59, gR_225_60, gR_225_61, gR_225_62, gR_225_63, gR_225_66, gR_225_67, bq_n, bd_s, mp_s, rz_0, rz_1, bI_rz, zadd, zmul, zsub, le_nI, lt_nI, eq_nI, neg_nI, gen_nI, neg_lt, neg_le, neg_lt', neg_le', nI_lt0, if_true, if_false, ite_true, ite_false, reduceIte, not_true, not_false, and_true, true_and, and_false, false_and, or_true, true_or, or_false, false_or, eq_self, q_0, q_1, q_100, q_9999, q_1000000000000, q_100000000000000000, q_4000000000000000000, q_4611686018427387903, q_9223372036854775807, iadd, isub, imul, ineg, cmp_e, cmp_le, cmp_lt, cmp_ge, cmp_gt, maxl_i, minl_i, absl_i, toL_n, ldiv_i, aI_227, rd_mc k1, rd_lf k1, show (mc D < b) = False from eq_false (by omega), hlt, m_fallBy k1 _ _ k5 hss, ef, aI_268, k11, m_isFixed, cI_0, q3, aI_234, rd_len k1 hss, j1, q4]
        · by_cases q5 : ((len D s * mf D : Nat) : Int) < fallv D c s a b
          · refine stay τ Fr.rfl (by rw [eo, cif_f (fun z => by have := z.2.2.2.2.2.2.2.2.2.1; omega), vadd_n]) ?_
            unfold f_X12_layCorner_118_b f_X12_layCorner_265
            simp only [to_bq, l_0, l_1, l_2, l_3, l_4, l_5, l_6, l_7, l_8, l_9, l_10, l_11, l_12, l_13, l_14, l_15, l_16, l_17, l_18, l_19, l_20, l_21, l_22, l_23, l_24, l_25, l_26, l_27, l_28, l_29, l_30, l_31, l_32, l_40, l_41, l_42, l_43, l_44, l_45, l_46, l_47, l_48, l_49, l_50, l_51, l_52, l_53, l_54, l_55, l_56, l_57, l_58, l_59, l_60, l_61, l_62, l_63, l_64, l_72, l_97, l_99, l_100, l_104, l_120, l_122, l_128, l_140, l_255, l_256, l_257, l_258, l_260, l_261, l_262, l_364, l_680, l_700, l_701, l_840, l_999, l_1023, l_1024, l_9999, l_10000, l_1000000, lm]
            simp (disch := first | (with_reducible assumption) | omega | exact ⟨by omega, by omega⟩ | ((with_reducible first | apply Wf.wI | apply Wf.wL | apply Wf.fL | apply Wf.fI | apply Wf.fr); (repeat (with_reducible first | assumption | apply Wf.wI | apply Wf.wL | apply Wf.fL | apply Wf.fI | apply Wf.fr)))) only [ck_225, gI_225, gL_225, pI_225, pZ0_225, pZ1_225, pL_225, gR_225_1, gR_225_3, gR_225_4, gR_225_5, gR_225_6, gR_225_7, gR_225_8, gR_225_9, gR_225_10, gR_225_11, gR_225_12, gR_225_13, gR_225_14, gR_225_15, gR_225_16, gR_225_17, gR_225_18, gR_225_19, gR_225_20, gR_225_21, gR_225_35, gR_225_36, gR_225_38, gR_225_39, gR_225_40, gR_225_41, gR_225_43, gR_225_44, gR_225_45, gR_225_48, gR_225_49, gR_225_50, gR_225_51, gR_225_53, gR_225_54, gR_225_55, gR_225_56, gR_225_58, gR_225_59, gR_225_60, gR_225_61, gR_225_62, gR_225_63, gR_225_66, gR_225_67, bq_n, bd_s, mp_s, rz_0, rz_1, bI_rz, zadd, zmul, zsub, le_nI, lt_nI, eq_nI, neg_nI, gen_nI, neg_lt, neg_le, neg_lt', neg_le', nI_lt0, if_true, if_false, ite_true, ite_false, reduceIte, not_true, not_false, and_true, true_and, and_false, false_and, or_true, true_or, or_false, false_or, eq_self, q_0, q_1, q_100, q_9999, q_1000000000000, q_100000000000000000, q_4000000000000000000, q_4611686018427387903, q_9223372036854775807, iadd, isub, imul, ineg, cmp_e, cmp_le, cmp_lt, cmp_ge, cmp_gt, maxl_i, minl_i, absl_i, toL_n, ldiv_i, aI_227, rd_mc k1, rd_lf k1, rd_mf k1, show (mc D < b) = False from eq_false (by omega), hlt, m_fallBy k1 _ _ k5 hss, ef, aI_268, k11, m_isFixed, cI_0, q3, aI_234, rd_len k1 hss, j1, q4, j2, q5]
          · obtain ⟨⟨r1, r2⟩, e1, e2, e3⟩ := m_carriesBy k1 hw hss (z := fallv D c s a b) ⟨ef1, ef2⟩
            have e2 : r1 = iL (carv D (wid D w) ((fallv D c s a b).tdiv (len D s))) := e2
            have e3 : Fr Xv τ r2 := e3
            have cb := carv_b k1.t (k1.t.qwid99 hw) (f := (fallv D c s a b).tdiv (len D s)) (by have := tdiv_b (n := len D s) ⟨ef1, ef2⟩; omega)
            have hq2 : ah_L r2 265 c = iL (Q c) := by rw [e3.L (by unfold Xv; omega)]; exact k8.1
            have hW2 : Wf r2 := (k1.q (e3.mono Xv_q)).w
            by_cases q6 : Q c ≤ carv D (wid D w) ((fallv D c s a b).tdiv (len D s))
            · have k1' := k1.q (e3.mono Xv_q)
              obtain ⟨⟨r3, r4⟩, f1, f2, f3⟩ := m_costBy k1' (c := c) (p := w) (s := s) (a := a) (b := b) k5 hw hss (by omega) (by omega)
              have f2 : r3 = iL (costv D c w s a b) := f2
              have f3 : Fr Xv r2 r4 := f3
              have hW4 : Wf r4 := (k1'.q (f3.mono Xv_q)).w
              have cv := costv_b k1.t (c := c) (w := w) (s := s) (a := a) (b := b) hss hw (by omega) (by omega)
              have g4 : Fr Xv τ r4 := e3.trans f3
              have eE : layE p T c w b a = some (x.1 + (costv D c w s a b).toNat, x.2 + ky c w a b) := by
                rw [eo, hbe, cif_t ⟨hw, hal, ham, hlb, by omega, hf1, hf2, q3, by omega, by omega, q6⟩]; rfl
              have hrow := hr w b (by omega) (by omega)
              have hg : (if w = w ∧ b < b then layG p T c w (a + 1) w b else layG p T c w a w b) = layG p T c w a w b := if_neg (by omega)
              rw [show (fun v b' => if v = w ∧ b' < b then layG p T c w (a + 1) v b' else layG p T c w a v b') w b = layG p T c w a w b from hg] at hrow
              have hl2 : ah_L r2 264 ((c * 4 + w) * 13 + b) = iL (lv (layG p T c w a w b)) := by rw [e3.L (by unfold Xv; omega)]; exact hrow.1
              have eadd : iL (lv (behT p T c w a)) + iL (costv D c w s a b) = iL (lv (layE p T c w b a)) := by
                rw [iadd, eE, hbe]
                show iL ((x.1 : Int) + costv D c w s a b) = iL (((x.1 + (costv D c w s a b).toNat : Nat)) : Int)
                rw [Int.natCast_add, Int.toNat_of_nonneg cv.1]
              have lb := layE_b (b := b) h0 (show w < 4 by omega) (show a < 13 by omega)
              have emin : op_minl (iL (lv (layG p T c w a w b))) (iL (lv (layE p T c w b a))) = iL (lv (layG p T c w (a + 1) w b)) := by
                rw [hnext, minl_v hrow.2 (vb_mono lb (by omega)) (by decide)]
              have he : f_X12_layCorner_118_b K38 K57 (f_X12_layCorner_118 K38 K57 fu) 225 (nI c) (nI s) (nI w) (nI a) (iL (lv (behT p T c w a))) (nI b) τ = f_X12_layCorner_118 K38 K57 fu 225 (nI c) (nI s) (nI w) (nI a) (iL (lv (behT p T c w a))) (nI (b + 1)) (ah_wL r4 264 ((c * 4 + w) * 13 + b) (iL (lv (layG p T c w (a + 1) w b)))) := by
                have hidx : (c * 4 + w) * 13 + b < 364 := by omega
                have q6' : (nI 0 ≤ lg_cmp r1 (iL (Q c))) = True := by
                  rw [e2, cmp_ge ⟨by omega, by omega⟩ ⟨by omega, by omega⟩]; exact eq_true q6
                unfold f_X12_layCorner_118_b f_X12_layCorner_265 f_X12_atLeast f_X12_atLeast_0
                simp only [to_bq, l_0, l_1, l_2, l_3, l_4, l_5, l_6, l_7, l_8, l_9, l_10, l_11, l_12, l_13, l_14, l_15, l_16, l_17, l_18, l_19, l_20, l_21, l_22, l_23, l_24, l_25, l_26, l_27, l_28, l_29, l_30, l_31, l_32, l_40, l_41, l_42, l_43, l_44, l_45, l_46, l_47, l_48, l_49, l_50, l_51, l_52, l_53, l_54, l_55, l_56, l_57, l_58, l_59, l_60, l_61, l_62, l_63, l_64, l_72, l_97, l_99, l_100, l_104, l_120, l_122, l_128, l_140, l_255, l_256, l_257, l_258, l_260, l_261, l_262, l_364, l_680, l_700, l_701, l_840, l_999, l_1023, l_1024, l_9999, l_10000, l_1000000, lm]
                rw [f2] at f1
                rw [← eadd] at emin
                simp (disch := first | (with_reducible assumption) | omega | exact ⟨by omega, by omega⟩ | ((with_reducible first | apply Wf.wI | apply Wf.wL | apply Wf.fL | apply Wf.fI | apply Wf.fr); (repeat (with_reducible first | assumption | apply Wf.wI | apply Wf.wL | apply Wf.fL | apply Wf.fI | apply Wf.fr)))) only [ck_225, gI_225, gL_225, pI_225, pZ0_225, pZ1_225, pL_225, gR_225_1, gR_225_3, gR_225_4, gR_225_5, gR_225_6, gR_225_7, gR_225_8, gR_225_9, gR_225_10, gR_225_11, gR_225_12, gR_225_13, gR_225_14, gR_225_15, gR_225_16, gR_225_17, gR_225_18, gR_225_19, gR_225_20, gR_225_21, gR_225_35, gR_225_36, gR_225_38, gR_225_39, gR_225_40, gR_225_41, gR_225_43, gR_225_44, gR_225_45, gR_225_48, gR_225_49, gR_225_50, gR_225_51, gR_225_53, gR_225_54, gR_225_55, gR_225_56, gR_225_58, gR_225_59, gR_225_60, gR_225_61, gR_225_62, gR_225_63, gR_225_66, gR_225_67, bq_n, bd_s, mp_s, rz_0, rz_1, bI_rz, zadd, zmul, zsub, le_nI, lt_nI, eq_nI, neg_nI, gen_nI, neg_lt, neg_le, neg_lt', neg_le', nI_lt0, if_true, if_false, ite_true, ite_false, reduceIte, not_true, not_false, and_true, true_and, and_false, false_and, or_true, true_or, or_false, false_or, eq_self, q_4000000000000000000, cmp_ge, aI_227, rd_mc k1, rd_lf k1, rd_mf k1, show (mc D < b) = False from eq_false (by omega), hlt, m_fallBy k1 _ _ k5 hss, ef, aI_268, k11, m_isFixed, cI_0, q3, aI_234, rd_len k1 hss, j1, q4, j2, q5, e1, aL_265, hq2, q6', aL_264, hl2, f1, emin, sL_264]
              rw [he]
              refine ih (b + 1) fu _ (by omega) (by omega) (by omega) ((g.trans (g4.mono Xv_l)).wL (Or.inr ⟨rfl, by omega, by omega⟩)) (((hr.fr g4).set (show w < 4 by omega) (show b < 13 by omega) (x := layG p T c w (a + 1) w b) (by rw [hnext]; exact vb_min hrow.2 (vb_mono lb (by omega)))).cg (fun v b' hv hb2 => ?_))
              show _ = (if v = w ∧ b' = b then layG p T c w (a + 1) w b else if v = w ∧ b' < b then layG p T c w (a + 1) v b' else layG p T c w a v b')
              by_cases q7 : v = w ∧ b' = b
              · rw [if_pos q7, if_pos (by omega), q7.1, q7.2]
              · rw [if_neg q7]
                by_cases q8 : v = w ∧ b' < b
                · rw [if_pos q8, if_pos (by omega)]
                · rw [if_neg q8, if_neg (by omega)]
            · refine stay r2 e3 (by rw [eo, cif_f (fun z => q6 z.2.2.2.2.2.2.2.2.2.2), vadd_n]) ?_
              have q6' : (nI 0 ≤ lg_cmp r1 (iL (Q c))) = False := by
                rw [e2, cmp_ge ⟨by omega, by omega⟩ ⟨by omega, by omega⟩]; exact eq_false q6
              unfold f_X12_layCorner_118_b f_X12_layCorner_265
              simp only [to_bq, l_0, l_1, l_2, l_3, l_4, l_5, l_6, l_7, l_8, l_9, l_10, l_11, l_12, l_13, l_14, l_15, l_16, l_17, l_18, l_19, l_20, l_21, l_22, l_23, l_24, l_25, l_26, l_27, l_28, l_29, l_30, l_31, l_32, l_40, l_41, l_42, l_43, l_44, l_45, l_46, l_47, l_48, l_49, l_50, l_51, l_52, l_53, l_54, l_55, l_56, l_57, l_58, l_59, l_60, l_61, l_62, l_63, l_64, l_72, l_97, l_99, l_100, l_104, l_120, l_122, l_128, l_140, l_255, l_256, l_257, l_258, l_260, l_261, l_262, l_364, l_680, l_700, l_701, l_840, l_999, l_1023, l_1024, l_9999, l_10000, l_1000000, lm]
              simp (disch := first | (with_reducible assumption) | omega | exact ⟨by omega, by omega⟩ | ((with_reducible first | apply Wf.wI | apply Wf.wL | apply Wf.fL | apply Wf.fI | apply Wf.fr); (repeat (with_reducible first | assumption | apply Wf.wI | apply Wf.wL | apply Wf.fL | apply Wf.fI | apply Wf.fr)))) only [ck_225, gI_225, gL_225, pI_225, pZ0_225, pZ1_225, pL_225, gR_225_1, gR_225_3, gR_225_4, gR_225_5, gR_225_6, gR_225_7, gR_225_8, gR_225_9, gR_225_10, gR_225_11, gR_225_12, gR_225_13, gR_225_14, gR_225_15, gR_225_16, gR_225_17, gR_225_18, gR_225_19, gR_225_20, gR_225_21, gR_225_35, gR_225_36, gR_225_38, gR_225_39, gR_225_40, gR_225_41, gR_225_43, gR_225_44, gR_225_45, gR_225_48, gR_225_49, gR_225_50, gR_225_51, gR_225_53, gR_225_54, gR_225_55, gR_225_56, gR_225_58, gR_225_59, gR_225_60, gR_225_61, gR_225_62, gR_225_63, gR_225_66, gR_225_67, bq_n, bd_s, mp_s, rz_0, rz_1, bI_rz, zadd, zmul, zsub, le_nI, lt_nI, eq_nI, neg_nI, gen_nI, neg_lt, neg_le, neg_lt', neg_le', nI_lt0, if_true, if_false, ite_true, ite_false, reduceIte, not_true, not_false, and_true, true_and, and_false, false_and, or_true, true_or, or_false, false_or, eq_self, q_4000000000000000000, cmp_ge, aI_227, rd_mc k1, rd_lf k1, rd_mf k1, show (mc D < b) = False from eq_false (by omega), hlt, m_fallBy k1 _ _ k5 hss, ef, aI_268, k11, m_isFixed, cI_0, q3, aI_234, rd_len k1 hss, j1, q4, j2, q5, e1, aL_265, hq2, q6']
      · refine stay τ Fr.rfl (by rw [eo, cif_f (fun z => q3 z.2.2.2.2.2.2.2.1), vadd_n]) ?_
        unfold f_X12_layCorner_118_b f_X12_layCorner_265
        simp only [to_bq, l_0, l_1, l_2, l_3, l_4, l_5, l_6, l_7, l_8, l_9, l_10, l_11, l_12, l_13, l_14, l_15, l_16, l_17, l_18, l_19, l_20, l_21, l_22, l_23, l_24, l_25, l_26, l_27, l_28, l_29, l_30, l_31, l_32, l_40, l_41, l_42, l_43, l_44, l_45, l_46, l_47, l_48, l_49, l_50, l_51, l_52, l_53, l_54, l_55, l_56, l_57, l_58, l_59, l_60, l_61, l_62, l_63, l_64, l_72, l_97, l_99, l_100, l_104, l_120, l_122, l_128, l_140, l_255, l_256, l_257, l_258, l_260, l_261, l_262, l_364, l_680, l_700, l_701, l_840, l_999, l_1023, l_1024, l_9999, l_10000, l_1000000, lm]
        simp (disch := first | (with_reducible assumption) | omega | exact ⟨by omega, by omega⟩ | ((with_reducible first | apply Wf.wI | apply Wf.wL | apply Wf.fL | apply Wf.fI | apply Wf.fr); (repeat (with_reducible first | assumption | apply Wf.wI | apply Wf.wL | apply Wf.fL | apply Wf.fI | apply Wf.fr)))) only [ck_225, gI_225, gL_225, pI_225, pZ0_225, pZ1_225, pL_225, gR_225_1, gR_225_3, gR_225_4, gR_225_5, gR_225_6, gR_225_7, gR_225_8, gR_225_9, gR_225_10, gR_225_11, gR_225_12, gR_225_13, gR_225_14, gR_225_15, gR_225_16, gR_225_17, gR_225_18, gR_225_19, gR_225_20, gR_225_21, gR_225_35, gR_225_36, gR_225_38, gR_225_39, gR_225_40, gR_225_41, gR_225_43, gR_225_44, gR_225_45, gR_225_48, gR_225_49, gR_225_50, gR_225_51, gR_225_53, gR_225_54, gR_225_55, gR_225_56, gR_225_58, gR_225_59, gR_225_60, gR_225_61, gR_225_62, gR_225_63, gR_225_66, gR_225_67, bq_n, bd_s, mp_s, rz_0, rz_1, bI_rz, zadd, zmul, zsub, le_nI, lt_nI, eq_nI, neg_nI, gen_nI, neg_lt, neg_le, neg_lt', neg_le', nI_lt0, if_true, if_false, ite_true, ite_false, reduceIte, not_true, not_false, and_true, true_and, and_false, false_and, or_true, true_or, or_false, false_or, eq_self, q_0, q_1, q_100, q_9999, q_1000000000000, q_100000000000000000, q_4000000000000000000, q_4611686018427387903, q_9223372036854775807, iadd, isub, imul, ineg, cmp_e, cmp_le, cmp_lt, cmp_ge, cmp_gt, maxl_i, minl_i, absl_i, toL_n, ldiv_i, aI_227, rd_mc k1, show (mc D < b) = False from eq_false (by omega), hlt, m_fallBy k1 _ _ k5 hss, aI_268, k11, m_isFixed, cI_f q3]
theorem m_lay57 {K38 : Nat → Int32 → Int32 → Int32 → ah_H → Option (ah_H)} (h0 : LyC σ D e st p T Q F1 F2 F3 ky c s) (hw : w < nP D) : ∀ i a fu τ, a + i = mc D + 1 → i < fu → lc D ≤ a → Fr (Xlc c) σ τ → RowG τ c (layG p T c w a) → ∃ τ', f_X12_layCorner_57 K38 fu 225 (nI c) (nI s) (nI w) (nI a) τ = K38 225 (nI c) (nI s) (nI (w + 1)) τ' ∧ Fr (Xlc c) σ τ' ∧ RowG τ' c (layG p T c (w + 1) 0) := by
  have hb := h0.1.bd
  have hnone : ∀ v b a, layG p T c w a v b = layG p T c w a v b := fun _ _ _ => rfl
  have hfin : ∀ v b, layG p T c (w + 1) 0 v b = layG p T c w (mc D + 1) v b := fun v b => by
    unfold layG
    by_cases q : v < w
    · rw [if_pos q, if_pos (by omega)]
    · by_cases q2 : v = w
      · rw [if_neg q, if_pos q2, if_pos (by omega), q2]
        unfold layT
        rw [h0.2.2.1.2.1]; rfl
      · rw [if_neg q, if_neg q2, if_neg (by omega)]
        by_cases q3 : v = w + 1
        · rw [if_pos q3]; rfl
        · rw [if_neg q3]
  intro i
  induction i with
  | zero =>
    intro a fu τ ha hf hla g hr
    obtain ⟨fu, rfl⟩ : ∃ q, fu = q + 1 := ⟨fu - 1, by omega⟩
    have h := h0.fr g
    have hW := h.1.w
    refine ⟨τ, ?_, g, hr.cg (fun v b hv hb2 => by rw [hfin, show a = mc D + 1 by omega])⟩
    show f_X12_layCorner_57_b _ _ _ _ _ _ _ _ = _
    unfold f_X12_layCorner_57_b f_X12_layCorner_277
    simp only [to_bq, l_0, l_1, l_2, l_3, l_4, l_5, l_6, l_7, l_8, l_9, l_10, l_11, l_12, l_13, l_14, l_15, l_16, l_17, l_18, l_19, l_20, l_21, l_22, l_23, l_24, l_25, l_26, l_27, l_28, l_29, l_30, l_31, l_32, l_40, l_41, l_42, l_43, l_44, l_45, l_46, l_47, l_48, l_49, l_50, l_51, l_52, l_53, l_54, l_55, l_56, l_57, l_58, l_59, l_60, l_61, l_62, l_63, l_64, l_72, l_97, l_99, l_100, l_104, l_120, l_122, l_128, l_140, l_255, l_256, l_257, l_258, l_260, l_261, l_262, l_364, l_680, l_700, l_701, l_840, l_999, l_1023, l_1024, l_9999, l_10000, l_1000000, lm]
    simp (disch := first | (with_reducible assumption) | omega | exact ⟨by omega, by omega⟩ | ((with_reducible first | apply Wf.wI | apply Wf.wL | apply Wf.fL | apply Wf.fI | apply Wf.fr); (repeat (with_reducible first | assumption | apply Wf.wI | apply Wf.wL | apply Wf.fL | apply Wf.fI | apply Wf.fr)))) only [ck_225, gI_225, gL_225, pI_225, pZ0_225, pZ1_225, pL_225, gR_225_1, gR_225_3, gR_225_4, gR_225_5, gR_225_6, gR_225_7, gR_225_8, gR_225_9, gR_225_10, gR_225_11, gR_225_12, gR_225_13, gR_225_14, gR_225_15, gR_225_16, gR_225_17, gR_225_18, gR_225_19, gR_225_20, gR_225_21, gR_225_35, gR_225_36, gR_225_38, gR_225_39, gR_225_40, gR_225_41, gR_225_43, gR_225_44, gR_225_45, gR_225_48, gR_225_49, gR_225_50, gR_225_51, gR_225_53, gR_225_54, gR_225_55, gR_225_56, gR_225_58, gR_225_59, gR_225_60, gR_225_61, gR_225_62, gR_225_63, gR_225_66, gR_225_67, bq_n, bd_s, mp_s, rz_0, rz_1, bI_rz, zadd, zmul, zsub, le_nI, lt_nI, eq_nI, neg_nI, gen_nI, neg_lt, neg_le, neg_lt', neg_le', nI_lt0, if_true, if_false, ite_true, ite_false, reduceIte, not_true, not_false, and_true, true_and, and_false, false_and, or_true, true_or, or_false, false_or, eq_self, aI_227, rd_mc h.1, show (mc D < a) = True from eq_true (by omega)]
  | succ i ih =>
    intro a fu τ ha hf hla g hr
    obtain ⟨fu, rfl⟩ : ∃ q, fu = q + 1 := ⟨fu - 1, by omega⟩
    have h := h0.fr g
    have hW := h.1.w
    have k9 := h.2.2.2.2.2.2.2.2.1
    have k10 := h.2.2.2.2.2.2.2.2.2.1
    have hc := h.2.2.2.2.1
    have hsk : (∀ b, dpo p c w a b = none) → ∀ v b, layG p T c w (a + 1) v b = layG p T c w a v b := by
      intro hz v b
      unfold layG
      by_cases q : v < w
      · rw [if_pos q, if_pos q]
      · rw [if_neg q, if_neg q]
        by_cases q2 : v = w
        · rw [if_pos q2, if_pos q2]
          show vmin (vmn (layE p T c w b) a) (layE p T c w b a) = _
          rw [show layE p T c w b a = none by unfold layE; rw [hz, vadd_n], vmin_n]
        · rw [if_neg q2, if_neg q2]
    show ∃ τ', f_X12_layCorner_57_b K38 (f_X12_layCorner_57 K38 fu) 225 (nI c) (nI s) (nI w) (nI a) τ = _ ∧ _
    by_cases q1 : fx (F1 c) w
    · by_cases q2 : fx (F2 c) a
      · obtain ⟨⟨r1, r2⟩, e1, e2, e3⟩ := m_behind h.1 h.2.1 h.2.2.1 hc h.2.2.2.2.2.2.1 h.2.2.2.2.2.2.2.1 (show w < 4 by omega) (show a ≤ mc D by omega)
        have e2 : r1 = iL (lv (behT p T c w a)) := e2
        have e3 : Fr Xv τ r2 := e3
        have g2 : Fr (Xlc c) σ r2 := g.trans (e3.mono Xv_l)
        have h2 := h0.fr g2
        have hW2 := h2.1.w
        obtain ⟨τ', f1, f2, f3⟩ := m_lay118 (K38 := K38) (K57 := f_X12_layCorner_57 K38 fu) h0 hw hla (show a ≤ mc D by omega) q1 q2 (mc D + 1 - lc D) (lc D) 5000 r2 (by omega) (by omega) (Nat.le_refl _) g2 ((hr.fr e3).cg (fun v b hv hb2 => by
          by_cases q : v = w ∧ b < lc D
          · rw [if_pos q, q.1]
            unfold layG
            rw [if_neg (by omega), if_pos rfl, if_neg (by omega), if_pos rfl]
            show vmin (vmn (layE p T c w b) a) (layE p T c w b a) = _
            rw [show layE p T c w b a = none by unfold layE; rw [h0.2.2.2.1, own_nb (by omega), vadd_n], vmin_n]
          · rw [if_neg q]))
        have he : f_X12_layCorner_57_b K38 (f_X12_layCorner_57 K38 fu) 225 (nI c) (nI s) (nI w) (nI a) τ = f_X12_layCorner_118 K38 (f_X12_layCorner_57 K38 fu) 5000 225 (nI c) (nI s) (nI w) (nI a) (iL (lv (behT p T c w a))) (nI (lc D)) r2 := by
          unfold f_X12_layCorner_57_b
          simp only [to_bq, l_0, l_1, l_2, l_3, l_4, l_5, l_6, l_7, l_8, l_9, l_10, l_11, l_12, l_13, l_14, l_15, l_16, l_17, l_18, l_19, l_20, l_21, l_22, l_23, l_24, l_25, l_26, l_27, l_28, l_29, l_30, l_31, l_32, l_40, l_41, l_42, l_43, l_44, l_45, l_46, l_47, l_48, l_49, l_50, l_51, l_52, l_53, l_54, l_55, l_56, l_57, l_58, l_59, l_60, l_61, l_62, l_63, l_64, l_72, l_97, l_99, l_100, l_104, l_120, l_122, l_128, l_140, l_255, l_256, l_257, l_258, l_260, l_261, l_262, l_364, l_680, l_700, l_701, l_840, l_999, l_1023, l_1024, l_9999, l_10000, l_1000000, lm]
          rw [e2] at e1
          simp (disch := first | (with_reducible assumption) | omega | exact ⟨by omega, by omega⟩ | ((with_reducible first | apply Wf.wI | apply Wf.wL | apply Wf.fL | apply Wf.fI | apply Wf.fr); (repeat (with_reducible first | assumption | apply Wf.wI | apply Wf.wL | apply Wf.fL | apply Wf.fI | apply Wf.fr)))) only [ck_225, gI_225, gL_225, pI_225, pZ0_225, pZ1_225, pL_225, gR_225_1, gR_225_3, gR_225_4, gR_225_5, gR_225_6, gR_225_7, gR_225_8, gR_225_9, gR_225_10, gR_225_11, gR_225_12, gR_225_13, gR_225_14, gR_225_15, gR_225_16, gR_225_17, gR_225_18, gR_225_19, gR_225_20, gR_225_21, gR_225_35, gR_225_36, gR_225_38, gR_225_39, gR_225_40, gR_225_41, gR_225_43, gR_225_44, gR_225_45, gR_225_48, gR_225_49, gR_225_50, gR_225_51, gR_225_53, gR_225_54, gR_225_55, gR_225_56, gR_225_58, gR_225_59, gR_225_60, gR_225_61, gR_225_62, gR_225_63, gR_225_66, gR_225_67, bq_n, bd_s, mp_s, rz_0, rz_1, bI_rz, zadd, zmul, zsub, le_nI, lt_nI, eq_nI, neg_nI, gen_nI, neg_lt, neg_le, neg_lt', neg_le', nI_lt0, if_true, if_false, ite_true, ite_false, reduceIte, not_true, not_false, and_true, true_and, and_false, false_and, or_true, true_or, or_false, false_or, eq_self, aI_227, rd_mc h.1, show (mc D < a) = False from eq_false (by omega), aI_266, sI_266, len_266, aI_267, sI_267, len_267, k9, k10, m_isFixed, cI_t q1, cI_t q2, Nat.reduceEqDiff, Nat.reduceAdd, Nat.reduceMul, Nat.reduceSub, Nat.reduceLT, Nat.reduceLeDiff, Nat.add_sub_cancel, Nat.zero_add, Nat.add_zero, Nat.mul_zero, Nat.zero_mul, e1, rd_lc h2.1]
        rw [he, f1]
        exact ih (a + 1) fu τ' (by omega) (by omega) (by omega) f2 f3
      · have he : f_X12_layCorner_57_b K38 (f_X12_layCorner_57 K38 fu) 225 (nI c) (nI s) (nI w) (nI a) τ = f_X12_layCorner_57 K38 fu 225 (nI c) (nI s) (nI w) (nI (a + 1)) τ := by
          unfold f_X12_layCorner_57_b f_X12_layCorner_271
          simp only [to_bq, l_0, l_1, l_2, l_3, l_4, l_5, l_6, l_7, l_8, l_9, l_10, l_11, l_12, l_13, l_14, l_15, l_16, l_17, l_18, l_19, l_20, l_21, l_22, l_23, l_24, l_25, l_26, l_27, l_28, l_29, l_30, l_31, l_32, l_40, l_41, l_42, l_43, l_44, l_45, l_46, l_47, l_48, l_49, l_50, l_51, l_52, l_53, l_54, l_55, l_56, l_57, l_58, l_59, l_60, l_61, l_62, l_63, l_64, l_72, l_97, l_99, l_100, l_104, l_120, l_122, l_128, l_140, l_255, l_256, l_257, l_258, l_260, l_261, l_262, l_364, l_680, l_700, l_701, l_840, l_999, l_1023, l_1024, l_9999, l_10000, l_1000000, lm]
          simp (disch := first | (with_reducible assumption) | omega | exact ⟨by omega, by omega⟩ | ((with_reducible first | apply Wf.wI | apply Wf.wL | apply Wf.fL | apply Wf.fI | apply Wf.fr); (repeat (with_reducible first | assumption | apply Wf.wI | apply Wf.wL | apply Wf.fL | apply Wf.fI | apply Wf.fr)))) only [ck_225, gI_225, gL_225, pI_225, pZ0_225, pZ1_225, pL_225, gR_225_1, gR_225_3, gR_225_4, gR_225_5, gR_225_6, gR_225_7, gR_225_8, gR_225_9, gR_225_10, gR_225_11, gR_225_12, gR_225_13, gR_225_14, gR_225_15, gR_225_16, gR_225_17, gR_225_18, gR_225_19, gR_225_20, gR_225_21, gR_225_35, gR_225_36, gR_225_38, gR_225_39, gR_225_40, gR_225_41, gR_225_43, gR_225_44, gR_225_45, gR_225_48, gR_225_49, gR_225_50, gR_225_51, gR_225_53, gR_225_54, gR_225_55, gR_225_56, gR_225_58, gR_225_59, gR_225_60, gR_225_61, gR_225_62, gR_225_63, gR_225_66, gR_225_67, bq_n, bd_s, mp_s, rz_0, rz_1, bI_rz, zadd, zmul, zsub, le_nI, lt_nI, eq_nI, neg_nI, gen_nI, neg_lt, neg_le, neg_lt', neg_le', nI_lt0, if_true, if_false, ite_true, ite_false, reduceIte, not_true, not_false, and_true, true_and, and_false, false_and, or_true, true_or, or_false, false_or, eq_self, aI_227, rd_mc h.1, show (mc D < a) = False from eq_false (by omega), aI_266, sI_266, len_266, aI_267, sI_267, len_267, k9, k10, m_isFixed, cI_t q1, cI_f q2, Nat.reduceEqDiff, Nat.reduceAdd, Nat.reduceMul, Nat.reduceSub, Nat.reduceLT, Nat.reduceLeDiff, Nat.add_sub_cancel, Nat.zero_add, Nat.add_zero, Nat.mul_zero, Nat.zero_mul]
        rw [he]
        exact ih (a + 1) fu τ (by omega) (by omega) (by omega) g (hr.cg (fun v b _ _ => hsk (fun b => by rw [h0.2.2.2.1]; exact own_n2 q2 b) v b))
    · have he : f_X12_layCorner_57_b K38 (f_X12_layCorner_57 K38 fu) 225 (nI c) (nI s) (nI w) (nI a) τ = K38 225 (nI c) (nI s) (nI (w + 1)) τ := by
        unfold f_X12_layCorner_57_b f_X12_layCorner_277
        simp only [to_bq, l_0, l_1, l_2, l_3, l_4, l_5, l_6, l_7, l_8, l_9, l_10, l_11, l_12, l_13, l_14, l_15, l_16, l_17, l_18, l_19, l_20, l_21, l_22, l_23, l_24, l_25, l_26, l_27, l_28, l_29, l_30, l_31, l_32, l_40, l_41, l_42, l_43, l_44, l_45, l_46, l_47, l_48, l_49, l_50, l_51, l_52, l_53, l_54, l_55, l_56, l_57, l_58, l_59, l_60, l_61, l_62, l_63, l_64, l_72, l_97, l_99, l_100, l_104, l_120, l_122, l_128, l_140, l_255, l_256, l_257, l_258, l_260, l_261, l_262, l_364, l_680, l_700, l_701, l_840, l_999, l_1023, l_1024, l_9999, l_10000, l_1000000, lm]
        simp (disch := first | (with_reducible assumption) | omega | exact ⟨by omega, by omega⟩ | ((with_reducible first | apply Wf.wI | apply Wf.wL | apply Wf.fL | apply Wf.fI | apply Wf.fr); (repeat (with_reducible first | assumption | apply Wf.wI | apply Wf.wL | apply Wf.fL | apply Wf.fI | apply Wf.fr)))) only [ck_225, gI_225, gL_225, pI_225, pZ0_225, pZ1_225, pL_225, gR_225_1, gR_225_3, gR_225_4, gR_225_5, gR_225_6, gR_225_7, gR_225_8, gR_225_9, gR_225_10, gR_225_11, gR_225_12, gR_225_13, gR_225_14, gR_225_15, gR_225_16, gR_225_17, gR_225_18, gR_225_19, gR_225_20, gR_225_21, gR_225_35, gR_225_36, gR_225_38, gR_225_39, gR_225_40, gR_225_41, gR_225_43, gR_225_44, gR_225_45, gR_225_48, gR_225_49, gR_225_50, gR_225_51, gR_225_53, gR_225_54, gR_225_55, gR_225_56, gR_225_58, gR_225_59, gR_225_60, gR_225_61, gR_225_62, gR_225_63, gR_225_66, gR_225_67, bq_n, bd_s, mp_s, rz_0, rz_1, bI_rz, zadd, zmul, zsub, le_nI, lt_nI, eq_nI, neg_nI, gen_nI, neg_lt, neg_le, neg_lt', neg_le', nI_lt0, if_true, if_false, ite_true, ite_false, reduceIte, not_true, not_false, and_true, true_and, and_false, false_and, or_true, true_or, or_false, false_or, eq_self, aI_227, rd_mc h.1, show (mc D < a) = False from eq_false (by omega), aI_266, sI_266, len_266, k9, m_isFixed, cI_f q1, Nat.reduceEqDiff, Nat.reduceAdd, Nat.reduceMul, Nat.reduceSub, Nat.reduceLT, Nat.reduceLeDiff, Nat.add_sub_cancel, Nat.zero_add, Nat.add_zero, Nat.mul_zero, Nat.zero_mul]
      rw [he]
      refine ⟨τ, rfl, g, hr.cg (fun v b _ _ => ?_)⟩
      rw [hfin]
      unfold layG
      by_cases q : v < w
      · rw [if_pos q, if_pos q]
      · rw [if_neg q, if_neg q]
        by_cases q2 : v = w
        · rw [if_pos q2, if_pos q2]
          have : ∀ k, vmn (layE p T c w b) k = none := fun k => vmn_none k (fun j _ => by unfold layE; rw [h0.2.2.2.1, own_n1 q1, vadd_n])
          rw [this, this]
        · rw [if_neg q2, if_neg q2]
theorem m_lay38 (h0 : LyC σ D e st p T Q F1 F2 F3 ky c s) : ∀ i w fu τ, w + i = nP D → i < fu → Fr (Xlc c) σ τ → RowG τ c (layG p T c w 0) → ∃ τ', f_X12_layCorner_38 fu 225 (nI c) (nI s) (nI w) τ = some τ' ∧ Fr (Xlc c) σ τ' ∧ RowG τ' c (layT p T c) := by
  have hb := h0.1.bd
  intro i
  induction i with
  | zero =>
    intro w fu τ hw hf g hr
    obtain ⟨fu, rfl⟩ : ∃ q, fu = q + 1 := ⟨fu - 1, by omega⟩
    have h := h0.fr g
    have hW := h.1.w
    refine ⟨τ, ?_, g, hr.cg (fun v b _ _ => ?_)⟩
    · show f_X12_layCorner_38_b _ _ _ _ _ _ = _
      unfold f_X12_layCorner_38_b
      simp only [to_bq, l_0, l_1, l_2, l_3, l_4, l_5, l_6, l_7, l_8, l_9, l_10, l_11, l_12, l_13, l_14, l_15, l_16, l_17, l_18, l_19, l_20, l_21, l_22, l_23, l_24, l_25, l_26, l_27, l_28, l_29, l_30, l_31, l_32, l_40, l_41, l_42, l_43, l_44, l_45, l_46, l_47, l_48, l_49, l_50, l_51, l_52, l_53, l_54, l_55, l_56, l_57, l_58, l_59, l_60, l_61, l_62, l_63, l_64, l_72, l_97, l_99, l_100, l_104, l_120, l_122, l_128, l_140, l_255, l_256, l_257, l_258, l_260, l_261, l_262, l_364, l_680, l_700, l_701, l_840, l_999, l_1023, l_1024, l_9999, l_10000, l_1000000, lm]
      simp (disch := first | (with_reducible assumption) | omega | exact ⟨by omega, by omega⟩ | ((with_reducible first | apply Wf.wI | apply Wf.wL | apply Wf.fL | apply Wf.fI | apply Wf.fr); (repeat (with_reducible first | assumption | apply Wf.wI | apply Wf.wL | apply Wf.fL | apply Wf.fI | apply Wf.fr)))) only [ck_225, gI_225, gL_225, pI_225, pZ0_225, pZ1_225, pL_225, gR_225_1, gR_225_3, gR_225_4, gR_225_5, gR_225_6, gR_225_7, gR_225_8, gR_225_9, gR_225_10, gR_225_11, gR_225_12, gR_225_13, gR_225_14, gR_225_15, gR_225_16, gR_225_17, gR_225_18, gR_225_19, gR_225_20, gR_225_21, gR_225_35, gR_225_36, gR_225_38, gR_225_39, gR_225_40, gR_225_41, gR_225_43, gR_225_44, gR_225_45, gR_225_48, gR_225_49, gR_225_50, gR_225_51, gR_225_53, gR_225_54, gR_225_55, gR_225_56, gR_225_58, gR_225_59, gR_225_60, gR_225_61, gR_225_62, gR_225_63, gR_225_66, gR_225_67, bq_n, bd_s, mp_s, rz_0, rz_1, bI_rz, zadd, zmul, zsub, le_nI, lt_nI, eq_nI, neg_nI, gen_nI, neg_lt, neg_le, neg_lt', neg_le', nI_lt0, if_true, if_false, ite_true, ite_false, reduceIte, not_true, not_false, and_true, true_and, and_false, false_and, or_true, true_or, or_false, false_or, eq_self, aI_227, rd_P h.1, show (nP D ≤ w) = True from eq_true (by omega)]
    · unfold layG
      by_cases q : v < w
      · rw [if_pos q]
      · rw [if_neg q]
        have : layT p T c v b = none := vmn_none _ (fun j _ => by
          show vadd _ (dpo p c v j b) = none
          rw [h0.2.2.2.1, own_no (by omega), vadd_n])
        rw [this]
        by_cases q2 : v = w
        · rw [if_pos q2]; rfl
        · rw [if_neg q2]
  | succ i ih =>
    intro w fu τ hw hf g hr
    obtain ⟨fu, rfl⟩ : ∃ q, fu = q + 1 := ⟨fu - 1, by omega⟩
    have h := h0.fr g
    have hW := h.1.w
    have he : f_X12_layCorner_38 (fu + 1) 225 (nI c) (nI s) (nI w) τ = f_X12_layCorner_57 (f_X12_layCorner_38 fu) 5000 225 (nI c) (nI s) (nI w) (nI (lc D)) τ := by
      show f_X12_layCorner_38_b _ _ _ _ _ _ = _
      unfold f_X12_layCorner_38_b
      simp only [to_bq, l_0, l_1, l_2, l_3, l_4, l_5, l_6, l_7, l_8, l_9, l_10, l_11, l_12, l_13, l_14, l_15, l_16, l_17, l_18, l_19, l_20, l_21, l_22, l_23, l_24, l_25, l_26, l_27, l_28, l_29, l_30, l_31, l_32, l_40, l_41, l_42, l_43, l_44, l_45, l_46, l_47, l_48, l_49, l_50, l_51, l_52, l_53, l_54, l_55, l_56, l_57, l_58, l_59, l_60, l_61, l_62, l_63, l_64, l_72, l_97, l_99, l_100, l_104, l_120, l_122, l_128, l_140, l_255, l_256, l_257, l_258, l_260, l_261, l_262, l_364, l_680, l_700, l_701, l_840, l_999, l_1023, l_1024, l_9999, l_10000, l_1000000, lm]
      simp (disch := first | (with_reducible assumption) | omega | exact ⟨by omega, by omega⟩ | ((with_reducible first | apply Wf.wI | apply Wf.wL | apply Wf.fL | apply Wf.fI | apply Wf.fr); (repeat (with_reducible first | assumption | apply Wf.wI | apply Wf.wL | apply Wf.fL | apply Wf.fI | apply Wf.fr)))) only [ck_225, gI_225, gL_225, pI_225, pZ0_225, pZ1_225, pL_225, gR_225_1, gR_225_3, gR_225_4, gR_225_5, gR_225_6, gR_225_7, gR_225_8, gR_225_9, gR_225_10, gR_225_11, gR_225_12, gR_225_13, gR_225_14, gR_225_15, gR_225_16, gR_225_17, gR_225_18, gR_225_19, gR_225_20, gR_225_21, gR_225_35, gR_225_36, gR_225_38, gR_225_39, gR_225_40, gR_225_41, gR_225_43, gR_225_44, gR_225_45, gR_225_48, gR_225_49, gR_225_50, gR_225_51, gR_225_53, gR_225_54, gR_225_55, gR_225_56, gR_225_58, gR_225_59, gR_225_60, gR_225_61, gR_225_62, gR_225_63, gR_225_66, gR_225_67, bq_n, bd_s, mp_s, rz_0, rz_1, bI_rz, zadd, zmul, zsub, le_nI, lt_nI, eq_nI, neg_nI, gen_nI, neg_lt, neg_le, neg_lt', neg_le', nI_lt0, if_true, if_false, ite_true, ite_false, reduceIte, not_true, not_false, and_true, true_and, and_false, false_and, or_true, true_or, or_false, false_or, eq_self, aI_227, rd_P h.1, rd_lc h.1, show (nP D ≤ w) = False from eq_false (by omega)]
    obtain ⟨τ', e1, e2, e3⟩ := m_lay57 (K38 := f_X12_layCorner_38 fu) h0 (show w < nP D by omega) (mc D + 1 - lc D) (lc D) 5000 τ (by omega) (by omega) (Nat.le_refl _) g (hr.cg (fun v b _ _ => by
      unfold layG
      by_cases q : v < w
      · rw [if_pos q, if_pos q]
      · rw [if_neg q, if_neg q]
        by_cases q2 : v = w
        · rw [if_pos q2, if_pos q2, vmn_none (f := layE p T c w b) (lc D) (fun j hj => by unfold layE; rw [h0.2.2.2.1, own_no (by omega), vadd_n])]; rfl
        · rw [if_neg q2, if_neg q2]))
    rw [he, e1]
    exact ih (w + 1) fu τ' (by omega) (by omega) e2 e3
end
