/-! THE REFERENCE: what comes to a corner -/
theorem vmin_as (x y z : VV) : vmin (vmin x y) z = vmin x (vmin y z) := by
  cases x with
  | none => rfl
  | some a =>
    cases y with
    | none => rfl
    | some b =>
      cases z with
      | none => rw [vmin_n, vmin_n]
      | some c =>
        show vmin (if vlt b a then some b else some a) (some c) = vmin (some a) (if vlt c b then some c else some b)
        by_cases q1 : vlt b a
        · by_cases q2 : vlt c b
          · rw [if_pos q1, if_pos q2]
            show (if vlt c b then some c else some b) = (if vlt c a then some c else some a)
            rw [if_pos q2, if_pos (vlt_tr q2 q1)]
          · rw [if_pos q1, if_neg q2]
            show (if vlt c b then some c else some b) = (if vlt b a then some b else some a)
            rw [if_neg q2, if_pos q1]
        · by_cases q2 : vlt c b
          · rw [if_neg q1, if_pos q2]
          · rw [if_neg q1, if_neg q2]
            show (if vlt c a then some c else some a) = (if vlt b a then some b else some a)
            rw [if_neg q1, if_neg (vle_tr' (fun z => q1 z) q2)]
theorem vmn_none {f : Nat → VV} : ∀ n, (∀ i, i < n → f i = none) → vmn f n = none := by
  intro n
  induction n with
  | zero => intro _; rfl
  | succ n ih =>
    intro h
    show vmin (vmn f n) (f n) = none
    rw [ih (fun i hi => h i (by omega)), h n (by omega)]; rfl
theorem vadd_z (x : VV) : vadd x (some (0, 0)) = x := by
  cases x with
  | none => rfl
  | some a => rfl
theorem vadd_c (x y : VV) : vadd x y = vadd y x := by
  cases x with
  | none => rw [vadd_n]; rfl
  | some a =>
    cases y with
    | none => rfl
    | some b =>
      show some (a.1 + b.1, a.2 + b.2) = some (b.1 + a.1, b.2 + a.2)
      rw [Nat.add_comm, Nat.add_comm a.2]
theorem vadd_as (x y z : VV) : vadd (vadd x y) z = vadd x (vadd y z) := by
  cases x with
  | none => rfl
  | some a =>
    cases y with
    | none => rfl
    | some b =>
      cases z with
      | none => rfl
      | some c =>
        show some (a.1 + b.1 + c.1, a.2 + b.2 + c.2) = some (a.1 + (b.1 + c.1), a.2 + (b.2 + c.2))
        rw [Nat.add_assoc, Nat.add_assoc]
theorem vsm_one {f g : Nat → VV} {q : Nat} (h : ∀ i, i ≠ q → g i = f i) (hq : g q = some (0, 0)) : ∀ n, q < n → vsm f n = vadd (f q) (vsm g n) := by
  intro n
  induction n with
  | zero => intro h; omega
  | succ n ih =>
    intro hn
    show vadd (vsm f n) (f n) = vadd (f q) (vadd (vsm g n) (g n))
    by_cases e : q = n
    · subst e
      rw [hq, vadd_z, vadd_c, vsm_cg (f := f) (g := g) q (fun i hi => (h i (by omega)).symm)]
    · rw [ih (by omega), h n (by omega), vadd_as]
def RowT (σ : ah_H) (T : Tbl) (o : Nat) : Prop := ∀ v b, v < 4 → b < 13 → ah_L σ 264 ((o * 4 + v) * 13 + b) = iL (lv (T o v b)) ∧ vb (T o v b) 1000000000000000
section
variable {σ : ah_H} {D : DD} {T : Tbl} {o w m : Nat}
theorem RowT.com (h : RowT σ T o) (hw : w < 4) (hm : m < 13) : vb (comT T o w m) 1000000000000000 := vb_mn _ (fun v hv => vb_mn _ (fun b hb => (h v b (by omega) (by omega)).2))
theorem RowT.cmj (h : RowT σ T o) (hw : w < 4) (hm : m < 13) : vb (cmjT T o w m) 1000000000000000 := vb_mn _ (fun v hv => (h v m (by omega) hm).2)
theorem RowT.fr {X : Nat → Nat → Prop} {τ : ah_H} (h : RowT σ T o) (g : Fr X σ τ) (hX : ∀ j, ¬ X 264 j) : RowT τ T o := fun v b hv hb => by
  rw [g.L (hX _)]; exact h v b hv hb
theorem m_com26 {K8 : Nat → Int32 → Int32 → Int32 → Int32 → Int64 → Int32 → ah_H → Option (Int64 × ah_H)} (hW : Wf σ) (ho : o < 7) (h : RowT σ T o) (hm : m < 13) {v : Nat} (hv : v < 4) (x2 x4 : Int32) : ∀ i b fu X, b + i = m + 1 → i < fu → vb X 1000000000000000 → f_X12_comes_26 K8 fu 225 (nI o) x2 (nI m) x4 (iL (lv X)) (nI v) (nI b) σ = K8 225 (nI o) x2 (nI m) x4 (iL (lv (vmin X (vmn (fun j => T o v (b + j)) i)))) (nI (v + 1)) σ := by
  intro i
  induction i with
  | zero =>
    intro b fu X hb hf hX
    obtain ⟨fu, rfl⟩ : ∃ q, fu = q + 1 := ⟨fu - 1, by omega⟩
    show f_X12_comes_26_b _ _ _ _ _ _ _ _ _ _ _ = _
    unfold f_X12_comes_26_b f_X12_comes_58
    simp only [to_bq, l_0, l_1, l_2, l_3, l_4, l_5, l_6, l_7, l_8, l_9, l_10, l_11, l_12, l_13, l_14, l_15, l_16, l_17, l_18, l_19, l_20, l_21, l_22, l_23, l_24, l_25, l_26, l_27, l_28, l_29, l_30, l_31, l_32, l_40, l_41, l_42, l_43, l_44, l_45, l_46, l_47, l_48, l_49, l_50, l_51, l_52, l_53, l_54, l_55, l_56, l_57, l_58, l_59, l_60, l_61, l_62, l_63, l_64, l_72, l_97, l_99, l_100, l_104, l_120, l_122, l_128, l_140, l_255, l_256, l_257, l_258, l_260, l_261, l_262, l_364, l_680, l_700, l_701, l_840, l_999, l_1023, l_1024, l_9999, l_10000, l_1000000, lm]
    rw [if_pos (by rw [lt_nI (by omega) (by omega)]; omega), zadd]
    show _ = K8 225 (nI o) x2 (nI m) x4 (iL (lv (vmin X none))) (nI (v + 1)) σ
    rw [vmin_n]
  | succ i ih =>
    intro b fu X hb hf hX
    obtain ⟨fu, rfl⟩ : ∃ q, fu = q + 1 := ⟨fu - 1, by omega⟩
    obtain ⟨r1, r2⟩ := h v b hv (by omega)
    have e0 : f_X12_comes_26_b K8 (f_X12_comes_26 K8 fu) 225 (nI o) x2 (nI m) x4 (iL (lv X)) (nI v) (nI b) σ = f_X12_comes_26 K8 fu 225 (nI o) x2 (nI m) x4 (iL (lv (vmin X (T o v b)))) (nI v) (nI (b + 1)) σ := by
      unfold f_X12_comes_26_b f_X12_atLeast f_X12_atLeast_0
      simp only [to_bq, l_0, l_1, l_2, l_3, l_4, l_5, l_6, l_7, l_8, l_9, l_10, l_11, l_12, l_13, l_14, l_15, l_16, l_17, l_18, l_19, l_20, l_21, l_22, l_23, l_24, l_25, l_26, l_27, l_28, l_29, l_30, l_31, l_32, l_40, l_41, l_42, l_43, l_44, l_45, l_46, l_47, l_48, l_49, l_50, l_51, l_52, l_53, l_54, l_55, l_56, l_57, l_58, l_59, l_60, l_61, l_62, l_63, l_64, l_72, l_97, l_99, l_100, l_104, l_120, l_122, l_128, l_140, l_255, l_256, l_257, l_258, l_260, l_261, l_262, l_364, l_680, l_700, l_701, l_840, l_999, l_1023, l_1024, l_9999, l_10000, l_1000000, lm]
      rw [if_neg (by rw [lt_nI (by omega) (by omega)]; omega)]
      simp (disch := first | (with_reducible assumption) | omega | exact ⟨by omega, by omega⟩ | ((with_reducible first | apply Wf.wI | apply Wf.wL | apply Wf.fL | apply Wf.fI | apply Wf.fr); (repeat (with_reducible first | assumption | apply Wf.wI | apply Wf.wL | apply Wf.fL | apply Wf.fI | apply Wf.fr)))) only [ck_225, gI_225, gL_225, pI_225, pZ0_225, pZ1_225, pL_225, gR_225_1, gR_225_3, gR_225_4, gR_225_5, gR_225_6, gR_225_7, gR_225_8, gR_225_9, gR_225_10, gR_225_11, gR_225_12, gR_225_13, gR_225_14, gR_225_15, gR_225_16, gR_225_17, gR_225_18, gR_225_19, gR_225_20, gR_225_21, gR_225_35, gR_225_36, gR_225_38, gR_225_39, gR_225_40, gR_225_41, gR_225_43, gR_225_44, gR_225_45, gR_225_48, gR_225_49, gR_225_50, gR_225_51, gR_225_53, gR_225_54, gR_225_55, gR_225_56, gR_225_58, gR_225_59, gR_225_60, gR_225_61, gR_225_62, gR_225_63, gR_225_66, gR_225_67, bq_n, bd_s, mp_s, rz_0, rz_1, bI_rz, zadd, zmul, zsub, le_nI, lt_nI, eq_nI, neg_nI, gen_nI, neg_lt, neg_le, neg_lt', neg_le', nI_lt0, aL_264, sL_264, len_264, r1, minl_v hX r2 (by decide)]
    show f_X12_comes_26_b _ _ _ _ _ _ _ _ _ _ _ = _
    rw [e0, ih (b + 1) fu _ (by omega) (by omega) (vb_min hX r2), vmin_as]
    congr 4
    rw [show vmn (fun j => T o v (b + j)) (i + 1) = vmin (T o v b) (vmn (fun j => T o v (b + 1 + j)) i) from ?_]
    clear ih e0 hf hb
    induction i with
    | zero => show vmin none (T o v (b + 0)) = vmin (T o v b) none; rw [vmin_n]; rfl
    | succ i ih =>
      show vmin (vmn (fun j => T o v (b + j)) (i + 1)) (T o v (b + (i + 1))) = vmin (T o v b) (vmin (vmn (fun j => T o v (b + 1 + j)) i) (T o v (b + 1 + i)))
      rw [ih, vmin_as, show b + (i + 1) = b + 1 + i by omega]
theorem m_com8 (hW : Wf σ) (ho : o < 7) (h : RowT σ T o) (hw : w < 4) (hm : m < 13) : ∀ i v fu, v + i = w + 1 → i < fu → f_X12_comes_8 fu 225 (nI o) (nI w) (nI m) (nI 0) (iL (lv (vmn (fun v => vmn (fun b => T o v b) (m + 1)) v))) (nI v) σ = some (iL (lv (comT T o w m)), σ) := by
  intro i
  induction i with
  | zero =>
    intro v fu hv hf
    obtain ⟨fu, rfl⟩ : ∃ q, fu = q + 1 := ⟨fu - 1, by omega⟩
    show f_X12_comes_8_b _ _ _ _ _ _ _ _ _ = _
    unfold f_X12_comes_8_b
    simp only [to_bq, l_0, l_1, l_2, l_3, l_4, l_5, l_6, l_7, l_8, l_9, l_10, l_11, l_12, l_13, l_14, l_15, l_16, l_17, l_18, l_19, l_20, l_21, l_22, l_23, l_24, l_25, l_26, l_27, l_28, l_29, l_30, l_31, l_32, l_40, l_41, l_42, l_43, l_44, l_45, l_46, l_47, l_48, l_49, l_50, l_51, l_52, l_53, l_54, l_55, l_56, l_57, l_58, l_59, l_60, l_61, l_62, l_63, l_64, l_72, l_97, l_99, l_100, l_104, l_120, l_122, l_128, l_140, l_255, l_256, l_257, l_258, l_260, l_261, l_262, l_364, l_680, l_700, l_701, l_840, l_999, l_1023, l_1024, l_9999, l_10000, l_1000000, lm]
    rw [if_pos (by rw [lt_nI (by omega) (by omega)]; omega), show v = w + 1 by omega]
    rfl
  | succ i ih =>
    intro v fu hv hf
    obtain ⟨fu, rfl⟩ : ∃ q, fu = q + 1 := ⟨fu - 1, by omega⟩
    show f_X12_comes_8_b _ _ _ _ _ _ _ _ _ = _
    unfold f_X12_comes_8_b f_X12_comes_24
    simp only [to_bq, l_0, l_1, l_2, l_3, l_4, l_5, l_6, l_7, l_8, l_9, l_10, l_11, l_12, l_13, l_14, l_15, l_16, l_17, l_18, l_19, l_20, l_21, l_22, l_23, l_24, l_25, l_26, l_27, l_28, l_29, l_30, l_31, l_32, l_40, l_41, l_42, l_43, l_44, l_45, l_46, l_47, l_48, l_49, l_50, l_51, l_52, l_53, l_54, l_55, l_56, l_57, l_58, l_59, l_60, l_61, l_62, l_63, l_64, l_72, l_97, l_99, l_100, l_104, l_120, l_122, l_128, l_140, l_255, l_256, l_257, l_258, l_260, l_261, l_262, l_364, l_680, l_700, l_701, l_840, l_999, l_1023, l_1024, l_9999, l_10000, l_1000000, lm]
    rw [if_neg (by rw [lt_nI (by omega) (by omega)]; omega), if_pos trivial, m_com26 hW ho h hm (by omega) _ _ (m + 1) 0 5000 _ (by omega) (by omega) (vb_mn _ (fun v' hv' => vb_mn _ (fun b hb => (h v' b (by omega) (by omega)).2)))]
    rw [vmn_cg (f := fun j => T o v (0 + j)) (g := fun b => T o v b) (m + 1) (fun j _ => by rw [Nat.zero_add])]
    exact ih (v + 1) fu (by omega) (by omega)
theorem m_com8j (hW : Wf σ) (ho : o < 7) (h : RowT σ T o) (hw : w < 4) (hm : m < 13) : ∀ i v fu, v + i = w + 1 → i < fu → f_X12_comes_8 fu 225 (nI o) (nI w) (nI m) (nI 1) (iL (lv (vmn (fun v => T o v m) v))) (nI v) σ = some (iL (lv (cmjT T o w m)), σ) := by
  intro i
  induction i with
  | zero =>
    intro v fu hv hf
    obtain ⟨fu, rfl⟩ : ∃ q, fu = q + 1 := ⟨fu - 1, by omega⟩
    show f_X12_comes_8_b _ _ _ _ _ _ _ _ _ = _
    unfold f_X12_comes_8_b
    simp only [to_bq, l_0, l_1, l_2, l_3, l_4, l_5, l_6, l_7, l_8, l_9, l_10, l_11, l_12, l_13, l_14, l_15, l_16, l_17, l_18, l_19, l_20, l_21, l_22, l_23, l_24, l_25, l_26, l_27, l_28, l_29, l_30, l_31, l_32, l_40, l_41, l_42, l_43, l_44, l_45, l_46, l_47, l_48, l_49, l_50, l_51, l_52, l_53, l_54, l_55, l_56, l_57, l_58, l_59, l_60, l_61, l_62, l_63, l_64, l_72, l_97, l_99, l_100, l_104, l_120, l_122, l_128, l_140, l_255, l_256, l_257, l_258, l_260, l_261, l_262, l_364, l_680, l_700, l_701, l_840, l_999, l_1023, l_1024, l_9999, l_10000, l_1000000, lm]
    rw [if_pos (by rw [lt_nI (by omega) (by omega)]; omega), show v = w + 1 by omega]
    rfl
  | succ i ih =>
    intro v fu hv hf
    obtain ⟨fu, rfl⟩ : ∃ q, fu = q + 1 := ⟨fu - 1, by omega⟩
    show f_X12_comes_8_b _ _ _ _ _ _ _ _ _ = _
    unfold f_X12_comes_8_b f_X12_comes_24
    simp only [to_bq, l_0, l_1, l_2, l_3, l_4, l_5, l_6, l_7, l_8, l_9, l_10, l_11, l_12, l_13, l_14, l_15, l_16, l_17, l_18, l_19, l_20, l_21, l_22, l_23, l_24, l_25, l_26, l_27, l_28, l_29, l_30, l_31, l_32, l_40, l_41, l_42, l_43, l_44, l_45, l_46, l_47, l_48, l_49, l_50, l_51, l_52, l_53, l_54, l_55, l_56, l_57, l_58, l_59, l_60, l_61, l_62, l_63, l_64, l_72, l_97, l_99, l_100, l_104, l_120, l_122, l_128, l_140, l_255, l_256, l_257, l_258, l_260, l_261, l_262, l_364, l_680, l_700, l_701, l_840, l_999, l_1023, l_1024, l_9999, l_10000, l_1000000, lm]
    rw [if_neg (by rw [lt_nI (by omega) (by omega)]; omega), if_neg (by decide), m_com26 hW ho h hm (by omega) _ _ 1 m 5000 _ (by omega) (by omega) (vb_mn _ (fun v' hv' => (h v' m (by omega) (by omega)).2))]
    exact ih (v + 1) fu (by omega) (by omega)
theorem m_comes (hW : Wf σ) (ho : o < 7) (h : RowT σ T o) (hw : w < 4) (hm : m < 13) : f_X12_comes 225 (nI o) (nI w) (nI m) (nI 0) σ = some (iL (lv (comT T o w m)), σ) := by
  unfold f_X12_comes f_X12_comes_0
  rw [ck_225 hW]
  exact m_com8 hW ho h hw hm (w + 1) 0 5000 (by omega) (by omega)
theorem m_comesj (hW : Wf σ) (ho : o < 7) (h : RowT σ T o) (hw : w < 4) (hm : m < 13) : f_X12_comes 225 (nI o) (nI w) (nI m) (nI 1) σ = some (iL (lv (cmjT T o w m)), σ) := by
  unfold f_X12_comes f_X12_comes_0
  rw [ck_225 hW]
  exact m_com8j hW ho h hw hm (w + 1) 0 5000 (by omega) (by omega)
end
