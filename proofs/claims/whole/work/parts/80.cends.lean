/-! THE CLASS: the ends of a pipe -/
theorem ky_bits {w a b : Nat} (hw : w < 4) (ha : a < 13) (hb : b < 13) : ((nI w <<< (nI 8 &&& nI 31)) ||| (nI a <<< (nI 4 &&& nI 31))) ||| nI b = nI (w * 256 + a * 16 + b) := (by decide +kernel : ∀ w, w < 4 → ∀ a, a < 13 → ∀ b, b < 13 → ((nI w <<< (nI 8 &&& nI 31)) ||| (nI a <<< (nI 4 &&& nI 31))) ||| nI b = nI (w * 256 + a * 16 + b)) w hw a ha b hb
theorem sh_64 {n : Nat} (hn : n < 51) : (1 : Int64) <<< (Int32.toInt64 (nI n) &&& 63) = iL ((2 ^ n : Nat) : Int) := (by decide +kernel : ∀ n, n < 51 → (1 : Int64) <<< (Int32.toInt64 (nI n) &&& 63) = iL ((2 ^ n : Nat) : Int)) n hn
/-- what was worked out of the laws -/
def PrT (σ : ah_H) (D : DD) : Prop := (∀ w, w < nP D → ∀ f, lf D ≤ f → f ≤ mf D → ah_L σ (197 + w) f = iL (carv D (wid D w) (f : Int))) ∧ ∀ c, c < nC D → ∀ w, w < nP D → ∀ d, lc D ≤ d → d ≤ mc D → ah_L σ (189 + c) (w * 13 + d) = iL (digv D (wid D w) d (d - rck D c))
section
variable {σ : ah_H} {t : Nat} {D : DD} {T : Tbl} {c w a s lo : Nat} {p : DPr} {drop hi q : Int} {x : Nat × Nat} {u : Nat}
def RwE (τ : ah_H) (D : DD) (c : Nat) (G : Nat → Nat → VV) : Prop := ∀ v b, v < nP D → lc D ≤ b → b ≤ mc D → Rp NV (ah_L τ (170 + c) (v * 13 + b)) (ah_L τ (170 + c) (52 + (v * 13 + b))) (G v b)
theorem RwE.cg {τ : ah_H} {G G' : Nat → Nat → VV} (h : RwE τ D c G) (e : ∀ v b, v < nP D → lc D ≤ b → b ≤ mc D → G' v b = G v b) : RwE τ D c G' := fun v b h1 h2 h3 => by rw [e v b h1 h2 h3]; exact h v b h1 h2 h3
def Xex (c a j : Nat) : Prop := a = 170 + c
theorem c_le182 (h0 : TR σ t D) (hp0 : ah_R σ 163 17 = some t) (hpr : PrT σ D) (hc : c < nC D) (hw : w < nP D) (ha : lc D ≤ a) (ha2 : a ≤ mc D) (hs : s < nS D) (hq : 0 ≤ q ∧ q ≤ 1000000000000) (hbe : behT p T c w a = some x) (hx1 : x.1 < 90000000000000000) (hx18 : ah_L σ 163 18 = iL (x.1 : Int)) (hx19 : ah_L σ 163 19 = iL (x.2 : Int)) (hu : ∀ b, b < 13 → x.2 + (w * 256 + a * 16 + b) * u < 9223372036854775808) (hlo : lc D ≤ lo) (hhi : hi ≤ mc D) (hhi0 : -20000 ≤ hi) (hdr : -3000 ≤ drop ∧ drop ≤ 3000) (hin : ∀ b, lo ≤ b → (b : Int) ≤ hi → -3000 ≤ drop + b ∧ drop + b ≤ 3000 ∧ ∃ f, lf D ≤ f ∧ f ≤ mf D ∧ (drop + b).tdiv (len D s) = (f : Int)) (hown : ∀ b, lc D ≤ b → b ≤ mc D → dpo p c w a b = cif (lo ≤ b ∧ (b : Int) ≤ hi ∧ q ≤ carv D (wid D w) ((drop + b).tdiv (len D s))) (some ((costv D c w s a b).toNat, (w * 256 + a * 16 + b) * u)) none) : ∀ i b fu τ, mc D + 1 ≤ b + i → b ≤ 100000 → i < fu → lo ≤ b → Fr (Xex c) σ τ → RwE τ D c (fun v b' => if v = w ∧ b' < b then layG p T c w (a + 1) v b' else layG p T c w a v b') → ∃ τ', f_X0_layEnds_182 fu 163 (nI c) (nI w) (nI a) (nI s) (nI (len D s)) (jI drop) (jI hi) (iL q) (iL ((u : Nat) : Int)) (nI b) τ = some τ' ∧ Fr (Xex c) σ τ' ∧ RwE τ' D c (layG p T c w (a + 1)) := by
  have hNV : NV = 100000000000000000 := rfl
  have htn := h0.tn
  have b4 := h0.t.qp4
  have b7 := h0.t.qc7
  have b12 := h0.t.qmc12
  have bmf := h0.t.qmf99
  have hl1 := h0.t.qlen99 hs
  have hpr9 := h0.t.qpri99 hw
  have hnext : ∀ b, layG p T c w (a + 1) w b = vmin (layG p T c w a w b) (layE p T c w b a) := fun b => by
    unfold layG
    rw [if_neg (by omega), if_pos rfl, if_neg (by omega), if_pos rfl]
    rfl
  have hother : ∀ v b, v ≠ w → layG p T c w (a + 1) v b = layG p T c w a v b := fun v b hv => by
    unfold layG
    by_cases q : v < w
    · rw [if_pos q, if_pos q]
    · rw [if_neg q, if_neg hv, if_neg q, if_neg hv]
  have hskip : ∀ b, lc D ≤ b → b ≤ mc D → ¬ (lo ≤ b ∧ (b : Int) ≤ hi ∧ q ≤ carv D (wid D w) ((drop + b).tdiv (len D s))) → layG p T c w (a + 1) w b = layG p T c w a w b := fun b h1 h2 h3 => by
    rw [hnext, show layE p T c w b a = none by unfold layE; rw [hown b h1 h2, cif_f h3, vadd_n], vmin_n]
  have fin : ∀ b fu τ, lo ≤ b → hi < (b : Int) → b ≤ 100000 → Fr (Xex c) σ τ → RwE τ D c (fun v b' => if v = w ∧ b' < b then layG p T c w (a + 1) v b' else layG p T c w a v b') → ∃ τ', f_X0_layEnds_182 (fu + 1) 163 (nI c) (nI w) (nI a) (nI s) (nI (len D s)) (jI drop) (jI hi) (iL q) (iL ((u : Nat) : Int)) (nI b) τ = some τ' ∧ Fr (Xex c) σ τ' ∧ RwE τ' D c (layG p T c w (a + 1)) := by
    intro b fu τ hlb hhb hb100 gf hr
    refine ⟨τ, ?_, gf, hr.cg (fun v b' hv h1 h2 => ?_)⟩
    · show f_X0_layEnds_182_b _ _ _ _ _ _ _ _ _ _ _ _ _ = _
      unfold f_X0_layEnds_182_b
      simp only [to_bq, l_0, l_1, l_2, l_3, l_4, l_5, l_6, l_7, l_8, l_9, l_10, l_11, l_12, l_13, l_14, l_15, l_16, l_17, l_18, l_19, l_20, l_21, l_22, l_23, l_24, l_25, l_26, l_27, l_28, l_29, l_30, l_31, l_32, l_40, l_41, l_42, l_43, l_44, l_45, l_46, l_47, l_48, l_49, l_50, l_51, l_52, l_53, l_54, l_55, l_56, l_57, l_58, l_59, l_60, l_61, l_62, l_63, l_64, l_72, l_97, l_99, l_100, l_104, l_120, l_122, l_128, l_140, l_255, l_256, l_257, l_258, l_260, l_261, l_262, l_364, l_680, l_700, l_701, l_840, l_999, l_1023, l_1024, l_9999, l_10000, l_1000000, lm]
      rw [if_pos (by rw [jI_n, jlt ⟨by omega, by omega⟩ ⟨by omega, by omega⟩]; exact hhb)]
    · by_cases z : v = w ∧ b' < b
      · rw [if_pos z]
      · rw [if_neg z]
        by_cases z2 : v = w
        · rw [z2]; exact hskip b' h1 h2 (fun y => by omega)
        · exact hother v b' z2
  intro i
  induction i with
  | zero =>
    intro b fu τ hb hb5 hf hlb gf hr
    obtain ⟨fu, rfl⟩ : ∃ q, fu = q + 1 := ⟨fu - 1, by omega⟩
    exact fin b fu τ hlb (by omega) (by omega) gf hr
  | succ i ih =>
    intro b fu τ hb hb5 hf hlb gf hr
    obtain ⟨fu, rfl⟩ : ∃ q, fu = q + 1 := ⟨fu - 1, by omega⟩
    by_cases qh : hi < (b : Int)
    · exact fin b fu τ hlb qh (by omega) gf hr
    have hbm : b ≤ mc D := by omega
    have h : TR τ t D := h0.fr gf (fun a j h1 h2 => by unfold Xex; rcases htn with z | z <;> omega)
    have hpp : ah_R τ 163 17 = some t := by rw [gf.R (Or.inr (by unfold Xex; omega))]; exact hp0
    have hW := h.w
    obtain ⟨i1, i2, f, i3, i4, i5⟩ := hin b hlb (by omega)
    have hcar : ah_L τ (197 + w) f = iL (carv D (wid D w) (f : Int)) := by rw [gf.L (by unfold Xex; omega)]; exact hpr.1 w hw f i3 i4
    have hdig : ah_L τ (189 + c) (w * 13 + (a + b) / 2) = iL (digv D (wid D w) ((a + b) / 2) ((a + b) / 2 - rck D c)) := by rw [gf.L (by unfold Xex; omega)]; exact hpr.2 c hc w hw _ (by omega) (by omega)
    have h18 : ah_L τ 163 18 = iL (x.1 : Int) := by rw [gf.L (by unfold Xex; omega)]; exact hx18
    have h19 : ah_L τ 163 19 = iL (x.2 : Int) := by rw [gf.L (by unfold Xex; omega)]; exact hx19
    have cb := carv_b h0.t (h0.t.qwid99 hw) (f := (f : Int)) (by omega)
    have efl : f_X9_fallByLength t (nI s) (jI drop + nI b) τ = some (nI f, τ) := by
      rw [jI_n b, jadd, c_fallByLength h hs ⟨i1, i2⟩, i5, ← jI_n f]
    have elt : (jI hi < nI b) = False := by
      rw [jI_n, jlt ⟨by omega, by omega⟩ ⟨by omega, by omega⟩]; exact eq_false qh
    have hat : w * 13 + b < 52 := by omega
    have aRc : op_aR .long τ 196 (nI w) = some (197 + w) := aR_carr hW (by omega)
    have aLc : op_aL τ (197 + w) (nI f) = some (ah_L τ (197 + w) f) := aL_carr hW (by omega) (by omega)
    by_cases qc : carv D (wid D w) (f : Int) < q
    · have he : f_X0_layEnds_182 (fu + 1) 163 (nI c) (nI w) (nI a) (nI s) (nI (len D s)) (jI drop) (jI hi) (iL q) (iL ((u : Nat) : Int)) (nI b) τ = f_X0_layEnds_182 fu 163 (nI c) (nI w) (nI a) (nI s) (nI (len D s)) (jI drop) (jI hi) (iL q) (iL ((u : Nat) : Int)) (nI (b + 1)) τ := by
        show f_X0_layEnds_182_b _ _ _ _ _ _ _ _ _ _ _ _ _ = _
        unfold f_X0_layEnds_182_b f_X0_layEnds_300
        simp only [to_bq, l_0, l_1, l_2, l_3, l_4, l_5, l_6, l_7, l_8, l_9, l_10, l_11, l_12, l_13, l_14, l_15, l_16, l_17, l_18, l_19, l_20, l_21, l_22, l_23, l_24, l_25, l_26, l_27, l_28, l_29, l_30, l_31, l_32, l_40, l_41, l_42, l_43, l_44, l_45, l_46, l_47, l_48, l_49, l_50, l_51, l_52, l_53, l_54, l_55, l_56, l_57, l_58, l_59, l_60, l_61, l_62, l_63, l_64, l_72, l_97, l_99, l_100, l_104, l_120, l_122, l_128, l_140, l_255, l_256, l_257, l_258, l_260, l_261, l_262, l_364, l_680, l_700, l_701, l_840, l_999, l_1023, l_1024, l_9999, l_10000, l_1000000, lm]
        have qc' : (lg_cmp (iL (carv D (wid D w) (f : Int))) (iL q) < nI 0) = True := by
          rw [cmp_lt ⟨by omega, by omega⟩ ⟨by omega, by omega⟩]; exact eq_true qc
        simp (disch := first | (with_reducible assumption) | omega | exact ⟨by omega, by omega⟩ | ((with_reducible first | apply Wf.wI | apply Wf.wL | apply Wf.fL | apply Wf.fI | apply Wf.fr); (repeat (with_reducible first | assumption | apply Wf.wI | apply Wf.wL | apply Wf.fL | apply Wf.fI | apply Wf.fr)))) only [ck_163, gI_163, gL_163, pI_163, pZ0_163, pZ1_163, pL_163, gR_163_1, gR_163_2, gR_163_3, gR_163_5, gR_163_6, gR_163_7, gR_163_9, gR_163_10, gR_163_11, gR_163_12, gR_163_13, gR_163_14, gR_163_15, pR_163_17, gR_163_17, bq_n, bd_s, mp_s, rz_0, rz_1, bI_rz, zadd, zmul, zsub, le_nI, lt_nI, eq_nI, neg_nI, gen_nI, neg_lt, neg_le, neg_lt', neg_le', nI_lt0, if_true, if_false, ite_true, ite_false, reduceIte, not_true, not_false, and_true, true_and, and_false, false_and, or_true, true_or, or_false, false_or, eq_self, elt, aRc, hpp, efl, aLc, hcar, qc']
      rw [he]
      refine ih (b + 1) fu τ (by omega) (by omega) (by omega) (by omega) gf (hr.cg (fun v b' hv h1 h2 => ?_))
      by_cases z : v = w
      · subst z
        by_cases z3 : b' = b
        · subst z3
          rw [if_pos ⟨rfl, by omega⟩, if_neg (by omega), hskip b' h1 h2 (fun y => by have := y.2.2; rw [i5] at this; omega)]
        · by_cases z4 : b' < b
          · rw [if_pos ⟨rfl, by omega⟩, if_pos ⟨rfl, z4⟩]
          · rw [if_neg (by omega), if_neg (by omega)]
      · rw [if_neg (fun y => z y.1), if_neg (fun y => z y.1)]
    · have cv := costv_b h0.t (c := c) (w := w) (s := s) (a := a) (b := b) hs hw (by omega) (by omega)
      have hu2 := hu b (by omega)
      have eE : layE p T c w b a = some (x.1 + (costv D c w s a b).toNat, x.2 + (w * 256 + a * 16 + b) * u) := by
        unfold layE
        rw [hbe, hown b (by omega) (by omega), cif_t ⟨hlb, by omega, by rw [i5]; omega⟩]; rfl
      have ecost : iL (x.1 : Int) + Int32.toInt64 (nI (len D s)) * (Int32.toInt64 (nI (pri D w)) + iL (digv D (wid D w) ((a + b) / 2) ((a + b) / 2 - rck D c))) = iL ((x.1 : Int) + costv D c w s a b) := by
        rw [toL_n (by omega), toL_n (by omega), iadd, imul, iadd]; rfl
      have ekey : iL (x.2 : Int) + Int32.toInt64 (nI (w * 256 + a * 16 + b)) * iL ((u : Nat) : Int) = iL (((x.2 + (w * 256 + a * 16 + b) * u : Nat)) : Int) := by
        rw [toL_n (by omega), imul, iadd]
        generalize w * 256 + a * 16 + b = K
        rw [Int.natCast_add, Int.natCast_mul]
      have hoff : Rp NV (iL ((x.1 : Int) + costv D c w s a b)) (iL (((x.2 + (w * 256 + a * 16 + b) * u : Nat)) : Int)) (layE p T c w b a) := by
        rw [eE]
        refine ⟨?_, rfl, ?_, hu2⟩
        · show _ = iL (((x.1 + (costv D c w s a b).toNat : Nat)) : Int)
          rw [Int.natCast_add, Int.toNat_of_nonneg cv.1]
        · show x.1 + (costv D c w s a b).toNat < _
          omega
      have hold := hr w b hw (by omega) (by omega)
      rw [show (fun v b' => if v = w ∧ b' < b then layG p T c w (a + 1) v b' else layG p T c w a v b') w b = layG p T c w a w b from if_neg (by omega)] at hold
      obtain ⟨τ2, o1, o2, o3⟩ := c_offer hW (Or.inl ⟨c, by omega, rfl⟩) hat hold hoff (by rw [hNV]; omega)
      rw [← hnext] at o3
      have he : f_X0_layEnds_182 (fu + 1) 163 (nI c) (nI w) (nI a) (nI s) (nI (len D s)) (jI drop) (jI hi) (iL q) (iL ((u : Nat) : Int)) (nI b) τ = f_X0_layEnds_182 fu 163 (nI c) (nI w) (nI a) (nI s) (nI (len D s)) (jI drop) (jI hi) (iL q) (iL ((u : Nat) : Int)) (nI (b + 1)) τ2 := by
        show f_X0_layEnds_182_b _ _ _ _ _ _ _ _ _ _ _ _ _ = _
        unfold f_X0_layEnds_182_b f_X0_layEnds_300
        simp only [to_bq, l_0, l_1, l_2, l_3, l_4, l_5, l_6, l_7, l_8, l_9, l_10, l_11, l_12, l_13, l_14, l_15, l_16, l_17, l_18, l_19, l_20, l_21, l_22, l_23, l_24, l_25, l_26, l_27, l_28, l_29, l_30, l_31, l_32, l_40, l_41, l_42, l_43, l_44, l_45, l_46, l_47, l_48, l_49, l_50, l_51, l_52, l_53, l_54, l_55, l_56, l_57, l_58, l_59, l_60, l_61, l_62, l_63, l_64, l_72, l_97, l_99, l_100, l_104, l_120, l_122, l_128, l_140, l_255, l_256, l_257, l_258, l_260, l_261, l_262, l_364, l_680, l_700, l_701, l_840, l_999, l_1023, l_1024, l_9999, l_10000, l_1000000, lm]
        have qc' : (lg_cmp (iL (carv D (wid D w) (f : Int))) (iL q) < nI 0) = False := by
          rw [cmp_lt ⟨by omega, by omega⟩ ⟨by omega, by omega⟩]; exact eq_false qc
        have hdv : op_div (nI (a + b)) (nI 2) = some (nI ((a + b) / 2)) := div_nI (by omega) (by omega) (by omega)
        have aLd : op_aL τ (189 + c) (nI (w * 13 + (a + b) / 2)) = some (ah_L τ (189 + c) (w * 13 + (a + b) / 2)) := aL_digg hW (by omega) (by omega)
        simp (disch := first | (with_reducible assumption) | omega | exact ⟨by omega, by omega⟩ | ((with_reducible first | apply Wf.wI | apply Wf.wL | apply Wf.fL | apply Wf.fI | apply Wf.fr); (repeat (with_reducible first | assumption | apply Wf.wI | apply Wf.wL | apply Wf.fL | apply Wf.fI | apply Wf.fr)))) only [ck_163, gI_163, gL_163, pI_163, pZ0_163, pZ1_163, pL_163, gR_163_1, gR_163_2, gR_163_3, gR_163_5, gR_163_6, gR_163_7, gR_163_9, gR_163_10, gR_163_11, gR_163_12, gR_163_13, gR_163_14, gR_163_15, pR_163_17, gR_163_17, ck_t, gI_t, gL_t, pI_t, pZ0_t, pZ1_t, pL_t, ck_w, gI_w, gL_w, pI_w, pZ0_w, pZ1_w, pL_w, gR_t_1, gR_t_5, gR_t_7, gR_t_9, gR_t_10, gR_t_11, gR_t_12, gR_t_15, gR_w_2, gR_w_3, gR_w_4, gR_w_5, gR_w_6, gR_w_7, aR_crow, aR_srow, aR_prow, aR_rrow, aI_crow, sI_crow, len_crow, aI_srow, sI_srow, len_srow, aI_prow, sI_prow, len_prow, aI_rrow, sI_rrow, len_rrow, aI_t25, sI_t25, len_t25, aI_t31, sI_t31, len_t31, aI_t32, sI_t32, len_t32, aI_t34, sI_t34, len_t34, aI_t35, sI_t35, len_t35, aI_t36, sI_t36, len_t36, aI_t37, sI_t37, len_t37, aL_t38, sL_t38, len_t38, aL_t39, sL_t39, len_t39, bq_n, bd_s, mp_s, rz_0, rz_1, bI_rz, zadd, zmul, zsub, le_nI, lt_nI, eq_nI, neg_nI, gen_nI, neg_lt, neg_le, neg_lt', neg_le', nI_lt0, if_true, if_false, ite_true, ite_false, reduceIte, not_true, not_false, and_true, true_and, and_false, false_and, or_true, true_or, or_false, false_or, eq_self, elt, aRc, hpp, efl, aLc, hcar, qc', tr_pri h hw, aR_digg, hdv, aLd, hdig, h18, h19, aR_exact, ky_bits (show w < 4 by omega) (show a < 13 by omega) (show b < 13 by omega), ecost, ekey, o1]
      rw [he]
      refine ih (b + 1) fu τ2 (by omega) (by omega) (by omega) (by omega) (gf.trans (o2.mono (fun a j z => z.1))) (fun v b' hv h1 h2 => ?_)
      by_cases z : v = w ∧ b' = b
      · obtain ⟨rfl, rfl⟩ := z
        rw [show (fun v' b'' => if v' = v ∧ b'' < b' + 1 then layG p T c v (a + 1) v' b'' else layG p T c v a v' b'') v b' = layG p T c v (a + 1) v b' from if_pos ⟨rfl, by omega⟩]
        exact o3
      · have ne1 : v * 13 + b' ≠ w * 13 + b := by omega
        have := hr v b' hv h1 h2
        rw [o2.L (by unfold Xat; omega), o2.L (by unfold Xat; omega)]
        by_cases z2 : v = w ∧ b' < b
        · rw [show (fun v' b'' => if v' = w ∧ b'' < b + 1 then layG p T c w (a + 1) v' b'' else layG p T c w a v' b'') v b' = layG p T c w (a + 1) v b' from if_pos ⟨z2.1, by omega⟩]
          rw [show (fun v' b'' => if v' = w ∧ b'' < b then layG p T c w (a + 1) v' b'' else layG p T c w a v' b'') v b' = layG p T c w (a + 1) v b' from if_pos z2] at this
          exact this
        · rw [show (fun v' b'' => if v' = w ∧ b'' < b + 1 then layG p T c w (a + 1) v' b'' else layG p T c w a v' b'') v b' = layG p T c w a v b' from if_neg (by omega)]
          rw [show (fun v' b'' => if v' = w ∧ b'' < b then layG p T c w (a + 1) v' b'' else layG p T c w a v' b'') v b' = layG p T c w a v b' from if_neg z2] at this
          exact this
end
