/-! THE REFERENCE'S TREES -/
section
variable {σ : ah_H} {D : DD}
theorem pcnt_le (m n : Nat) : pcnt m n ≤ n := by
  induction n with
  | zero => exact Nat.le_refl _
  | succ n ih =>
    show pcnt m n + (if m.testBit n then 1 else 0) ≤ _
    split <;> omega
theorem m_bits4 {m : Nat} (hm : m < 2147483648) : ∀ i k fu, k + i = 31 → i < fu → f_X12_bitsOf_4 fu (nI m) (nI (pcnt m k)) (nI k) σ = some (nI (pcnt m 31), σ) := by
  intro i
  induction i with
  | zero =>
    intro k fu hk hf
    obtain ⟨fu, rfl⟩ : ∃ q, fu = q + 1 := ⟨fu - 1, by omega⟩
    obtain rfl : k = 31 := by omega
    show f_X12_bitsOf_4_b _ _ _ _ _ = _
    unfold f_X12_bitsOf_4_b
    simp only [to_bq, l_0, l_1, l_2, l_3, l_4, l_5, l_6, l_7, l_8, l_9, l_10, l_11, l_12, l_13, l_14, l_15, l_16, l_17, l_18, l_19, l_20, l_21, l_22, l_23, l_24, l_25, l_26, l_27, l_28, l_29, l_30, l_31, l_32, l_40, l_41, l_42, l_43, l_44, l_45, l_46, l_47, l_48, l_49, l_50, l_51, l_52, l_53, l_54, l_55, l_56, l_57, l_58, l_59, l_60, l_61, l_62, l_63, l_64, l_72, l_97, l_99, l_100, l_104, l_120, l_122, l_128, l_140, l_255, l_256, l_257, l_258, l_260, l_261, l_262, l_364, l_680, l_700, l_701, l_840, l_999, l_1023, l_1024, l_9999, l_10000, l_1000000, lm]
    rw [if_pos (by decide)]
  | succ i ih =>
    intro k fu hk hf
    obtain ⟨fu, rfl⟩ : ∃ q, fu = q + 1 := ⟨fu - 1, by omega⟩
    have hb : nI m >>> (nI k &&& nI 31) &&& nI 1 = nI (if m.testBit k then 1 else 0) := by
      rw [sh31 (by omega), z_shr hm (by omega), z_and1, z_tb]
    have hp := pcnt_le m k
    show f_X12_bitsOf_4_b _ _ _ _ _ = _
    unfold f_X12_bitsOf_4_b
    simp only [to_bq, l_0, l_1, l_2, l_3, l_4, l_5, l_6, l_7, l_8, l_9, l_10, l_11, l_12, l_13, l_14, l_15, l_16, l_17, l_18, l_19, l_20, l_21, l_22, l_23, l_24, l_25, l_26, l_27, l_28, l_29, l_30, l_31, l_32, l_40, l_41, l_42, l_43, l_44, l_45, l_46, l_47, l_48, l_49, l_50, l_51, l_52, l_53, l_54, l_55, l_56, l_57, l_58, l_59, l_60, l_61, l_62, l_63, l_64, l_72, l_97, l_99, l_100, l_104, l_120, l_122, l_128, l_140, l_255, l_256, l_257, l_258, l_260, l_261, l_262, l_364, l_680, l_700, l_701, l_840, l_999, l_1023, l_1024, l_9999, l_10000, l_1000000, lm]
    rw [hb, if_neg (by rw [le_nI (by omega) (by omega)]; omega), zadd, zadd]
    exact ih (k + 1) fu (by omega) (by omega)
theorem m_bitsOf {m : Nat} (hm : m < 2147483648) : f_X12_bitsOf (nI m) σ = some (nI (pcnt m 31), σ) := by
  unfold f_X12_bitsOf f_X12_bitsOf_0
  simp only [to_bq, l_0, l_1, l_2, l_3, l_4, l_5, l_6, l_7, l_8, l_9, l_10, l_11, l_12, l_13, l_14, l_15, l_16, l_17, l_18, l_19, l_20, l_21, l_22, l_23, l_24, l_25, l_26, l_27, l_28, l_29, l_30, l_31, l_32, l_40, l_41, l_42, l_43, l_44, l_45, l_46, l_47, l_48, l_49, l_50, l_51, l_52, l_53, l_54, l_55, l_56, l_57, l_58, l_59, l_60, l_61, l_62, l_63, l_64, l_72, l_97, l_99, l_100, l_104, l_120, l_122, l_128, l_140, l_255, l_256, l_257, l_258, l_260, l_261, l_262, l_364, l_680, l_700, l_701, l_840, l_999, l_1023, l_1024, l_9999, l_10000, l_1000000, lm]
  exact m_bits4 hm 31 0 5000 (by omega) (by omega)
/-- as far as the streets of a set have been followed from a root -/
def JP (D : DD) (m r : Nat) (fa st : Nat → Option Nat) : Prop := fa r = some 0 ∧ st r = none ∧ (∀ c, c < nC D → c ≠ r → ∀ d, fa c = some d → ∃ s, st c = some s ∧ s < nS D ∧ m.testBit s = true ∧ tch D s c ∧ ∃ e, d = e + 1 ∧ fa (oth D s c) = some e) ∧ (∀ c, nC D ≤ c → fa c = none) ∧ (∀ c, fa c = none → st c = none) ∧ ∀ c d, fa c = some d → d < cnt fa (nC D)
def Xjf (a j : Nat) : Prop := a = 263 ∨ a = 248 ∧ 7 ≤ j
def JS (σ τ : ah_H) (D : DD) (m r : Nat) (fa st : Nat → Option Nat) : Prop := Fr Xjf σ τ ∧ JP D m r fa st ∧ (∀ c, c < nC D → ah_I τ 263 c = sv (fa c)) ∧ ∀ c, c < 7 → ah_I τ 248 (7 + c) = match st c with
  | some s => nI s
  | none => ah_I σ 248 (7 + c)
def upo (f : Nat → Option Nat) (c v : Nat) : Nat → Option Nat := fun x => if x = c then some v else f x
theorem upo_e {f : Nat → Option Nat} {c v : Nat} : upo f c v c = some v := if_pos rfl
theorem upo_n {f : Nat → Option Nat} {c v x : Nat} (h : x ≠ c) : upo f c v x = f x := if_neg h
theorem cnt_cg {f g : Nat → Option Nat} : ∀ n, (∀ x, x < n → f x = g x) → cnt f n = cnt g n := by
  intro n
  induction n with
  | zero => intro _; rfl
  | succ n ih =>
    intro h
    show cnt f n + _ = cnt g n + _
    rw [ih (fun x hx => h x (by omega)), h n (by omega)]
theorem cnt_upo {f : Nat → Option Nat} {c v : Nat} (h : f c = none) : ∀ n, c < n → cnt (upo f c v) n = cnt f n + 1 := by
  intro n
  induction n with
  | zero => intro h; omega
  | succ n ih =>
    intro hn
    show cnt (upo f c v) n + _ = cnt f n + _ + 1
    by_cases q : c = n
    · subst q
      rw [upo_e, h, if_neg (by intro z; cases z), if_pos rfl, cnt_cg (g := f) c (fun x hx => upo_n (by omega))]
    · rw [ih (by omega), upo_n (by omega)]
      omega
theorem cnt_full {f : Nat → Option Nat} : ∀ n, cnt f n = n ↔ ∀ x, x < n → f x ≠ none := by
  intro n
  induction n with
  | zero => exact ⟨fun _ x hx => by omega, fun _ => rfl⟩
  | succ n ih =>
    have h := cnt_le f n
    show cnt f n + _ = n + 1 ↔ _
    by_cases q : f n = none
    · rw [if_pos q]
      exact ⟨fun z => by omega, fun z => absurd q (z n (by omega))⟩
    · rw [if_neg q]
      constructor
      · intro z x hx
        by_cases e : x = n
        · rw [e]; exact q
        · exact ih.mp (by omega) x (by omega)
      · intro z
        have := ih.mpr (fun x hx => z x (by omega))
        omega
theorem JP.add {m r s c e : Nat} {fa st : Nat → Option Nat} (ht : MT D) (h : JP D m r fa st) (hs : s < nS D) (hm : m.testBit s = true) (hc : tch D s c) (h1 : fa c = none) (h2 : fa (oth D s c) = some e) : JP D m r (upo fa c (e + 1)) (upo st c s) := by
  obtain ⟨a1, a2, a3, a4, a5, a6⟩ := h
  have hcn : c < nC D := by
    rcases hc with z | z
    · rw [← z]; exact ht.qsAc hs
    · rw [← z]; exact ht.qsBc hs
  have hcr : r ≠ c := fun z => by rw [← z, a1] at h1; cases h1
  have hoc : oth D s c ≠ c := fun z => by rw [z, h1] at h2; cases h2
  have hct := cnt_upo (v := e + 1) h1 (nC D) hcn
  refine ⟨by rw [upo_n hcr]; exact a1, by rw [upo_n hcr]; exact a2, fun x hx hxr d hd => ?_, fun x hx => ?_, fun x hx => ?_, fun x d hd => ?_⟩
  · by_cases q : x = c
    · subst q
      rw [upo_e] at hd
      cases hd
      exact ⟨s, upo_e, hs, hm, hc, e, rfl, by rw [upo_n hoc]; exact h2⟩
    · rw [upo_n q] at hd
      obtain ⟨s', b1, b2, b3, b4, e', b5, b6⟩ := a3 x hx hxr d hd
      refine ⟨s', by rw [upo_n q]; exact b1, b2, b3, b4, e', b5, ?_⟩
      rw [upo_n (fun z => by rw [z, h1] at b6; cases b6)]
      exact b6
  · rw [upo_n (by omega)]; exact a4 x hx
  · by_cases q : x = c
    · rw [q, upo_e] at hx; cases hx
    · rw [upo_n q] at hx ⊢; exact a5 x hx
  · rw [hct]
    by_cases q : x = c
    · rw [q, upo_e] at hd
      cases hd
      have := a6 _ _ h2
      omega
    · rw [upo_n q] at hd
      have := a6 _ _ hd
      omega
theorem JP.uj {m r : Nat} {fa st : Nat → Option Nat} (ht : MT D) (h : JP D m r fa st) : ∀ d c, fa c = some d → Ujn D m r c := by
  intro d
  induction d with
  | zero =>
    intro c hc
    by_cases q : c = r
    · exact ⟨0, q⟩
    by_cases q2 : c < nC D
    · obtain ⟨s, -, -, -, -, e, he, -⟩ := h.2.2.1 c q2 q 0 hc
      omega
    · rw [h.2.2.2.1 c (by omega)] at hc; cases hc
  | succ d ih =>
    intro c hc
    by_cases q : c = r
    · exact ⟨0, q⟩
    by_cases q2 : c < nC D
    · obtain ⟨s, -, b2, b3, b4, e, he, b6⟩ := h.2.2.1 c q2 q (d + 1) hc
      obtain rfl : d = e := by omega
      exact Ujn_step b2 b3 b4 (ih _ b6)
    · rw [h.2.2.2.1 c (by omega)] at hc; cases hc
/-- all streets of the set have been followed -/
def JCl (D : DD) (m k : Nat) (fa : Nat → Option Nat) : Prop := ∀ s, s < k → m.testBit s = true → (fa (sA D s) = none ↔ fa (sB D s) = none)
theorem JP.all {m r : Nat} {fa st : Nat → Option Nat} (ht : MT D) (h : JP D m r fa st) (hc : JCl D m (nS D) fa) : cnt fa (nC D) = nC D ↔ ∀ c, c < nC D → Ujn D m r c := by
  rw [cnt_full]
  constructor
  · intro z c hx
    cases e : fa c with
    | none => exact absurd e (z c hx)
    | some d => exact h.uj ht d c e
  · intro z c hx
    refine Ujn_cl (D := D) (m := m) (x := r) (P := fun c => fa c ≠ none) (by rw [h.1]; intro w; cases w) (fun s c h1 h2 h3 h4 => ?_) (z c hx)
    have h5 := hc s h1 h2
    unfold oth at h4
    rcases h3 with h3 | h3
    · rw [if_pos h3] at h4
      rw [← h3]
      exact fun w => h4 (h5.mp w)
    · by_cases q : sA D s = c
      · rw [if_pos q] at h4
        rw [← h3]; exact h4
      · rw [if_neg q] at h4
        rw [← h3]
        exact fun w => h4 (h5.mpr w)
theorem Xjf_q : ∀ a j, Xjf a j → Xq a j := by
  intro a j h; unfold Xjf at h; unfold Xq; omega
theorem JS.mi {τ : ah_H} {m r : Nat} {fa st : Nat → Option Nat} (h : MInv σ D) (hj : JS σ τ D m r fa st) : MInv τ D := h.q (hj.1.mono Xjf_q)
theorem JS.fb {τ : ah_H} {m r : Nat} {fa st : Nat → Option Nat} (h : MInv σ D) (hj : JS σ τ D m r fa st) (c : Nat) : ∀ d, fa c = some d → d < 2147483648 := by
  intro d hd
  have h1 := hj.2.1.2.2.2.2.2 c d hd
  have h2 := cnt_le fa (nC D)
  have h3 := h.bd
  omega
/-- one street of the set is followed -/
theorem JS.add {τ : ah_H} {m r s c e : Nat} {fa st : Nat → Option Nat} (h : MInv σ D) (hj : JS σ τ D m r fa st) (hs : s < nS D) (hm : m.testBit s = true) (hc : tch D s c) (h1 : fa c = none) (h2 : fa (oth D s c) = some e) : JS σ (ah_wI (ah_wI τ 263 c (nI (e + 1))) 248 (7 + c) (nI s)) D m r (upo fa c (e + 1)) (upo st c s) := by
  have hb := h.bd
  have hcn : c < nC D := by
    rcases hc with z | z
    · rw [← z]; exact h.t.qsAc hs
    · rw [← z]; exact h.t.qsBc hs
  obtain ⟨g, jp, j1, j2⟩ := hj
  refine ⟨(g.wI (by unfold Xjf; omega)).wI (by unfold Xjf; omega), jp.add h.t hs hm hc h1 h2, fun x hx => ?_, fun x hx => ?_⟩
  · rw [rI_ne (by omega)]
    by_cases q : x = c
    · subst q
      rw [rI_eq, upo_e]; rfl
    · rw [rI_ne (by omega), upo_n q, j1 x hx]
  · by_cases q : x = c
    · subst q
      rw [rI_eq, upo_e]
    · rw [rI_ne (by omega), rI_ne (by omega), upo_n q]
      exact j2 x hx
theorem m_jf158 {τ : ah_H} {K46 : Nat → Int32 → Int32 → Int32 → Int32 → ah_H → Option (Int32 × ah_H)} {K57 : Nat → Int32 → Int32 → Int32 → Int32 → Int32 → ah_H → Option (Int32 × ah_H)} {m r s c e n : Nat} {x1 x3 : Int32} {fa st : Nat → Option Nat} (h : MInv σ D) (hj : JS σ τ D m r fa st) (hs : s < nS D) (hc : c < nC D) (h2 : fa (oth D s c) = some e) : f_X12_joinsFrom_158 K46 K57 225 x1 x3 (nI n) (nI s) (nI c) τ = K57 225 x1 x3 (nI (n + 1)) (nI 1) (nI (s + 1)) (ah_wI (ah_wI τ 263 c (nI (e + 1))) 248 (7 + c) (nI s)) := by
  have hb := h.bd
  have hi := hj.mi h
  have hw := hi.w
  have ho := h.t.qoth (c := c) hs
  have hr := hj.2.2.1 _ ho
  rw [h2] at hr
  have hr : ah_I τ 263 (oth D s c) = nI e := hr
  unfold f_X12_joinsFrom_158 f_X12_joinsFrom_200
  simp only [to_bq, l_0, l_1, l_2, l_3, l_4, l_5, l_6, l_7, l_8, l_9, l_10, l_11, l_12, l_13, l_14, l_15, l_16, l_17, l_18, l_19, l_20, l_21, l_22, l_23, l_24, l_25, l_26, l_27, l_28, l_29, l_30, l_31, l_32, l_40, l_41, l_42, l_43, l_44, l_45, l_46, l_47, l_48, l_49, l_50, l_51, l_52, l_53, l_54, l_55, l_56, l_57, l_58, l_59, l_60, l_61, l_62, l_63, l_64, l_72, l_97, l_99, l_100, l_104, l_120, l_122, l_128, l_140, l_255, l_256, l_257, l_258, l_260, l_261, l_262, l_364, l_680, l_700, l_701, l_840, l_999, l_1023, l_1024, l_9999, l_10000, l_1000000, lm]
  simp (disch := first | (with_reducible assumption) | omega | exact ⟨by omega, by omega⟩ | ((with_reducible first | apply Wf.wI | apply Wf.wL | apply Wf.fL | apply Wf.fI | apply Wf.fr); (repeat (with_reducible first | assumption | apply Wf.wI | apply Wf.wL | apply Wf.fL | apply Wf.fI | apply Wf.fr)))) only [ck_225, gI_225, gL_225, pI_225, pZ0_225, pZ1_225, pL_225, gR_225_1, gR_225_3, gR_225_4, gR_225_5, gR_225_6, gR_225_7, gR_225_8, gR_225_9, gR_225_10, gR_225_11, gR_225_12, gR_225_13, gR_225_14, gR_225_15, gR_225_16, gR_225_17, gR_225_18, gR_225_19, gR_225_20, gR_225_21, gR_225_35, gR_225_36, gR_225_38, gR_225_39, gR_225_40, gR_225_41, gR_225_43, gR_225_44, gR_225_45, gR_225_48, gR_225_49, gR_225_50, gR_225_51, gR_225_53, gR_225_54, gR_225_55, gR_225_56, gR_225_58, gR_225_59, gR_225_60, gR_225_61, gR_225_62, gR_225_63, gR_225_66, gR_225_67, bq_n, bd_s, mp_s, rz_0, rz_1, bI_rz, zadd, zmul, zsub, le_nI, lt_nI, eq_nI, neg_nI, gen_nI, neg_lt, neg_le, neg_lt', neg_le', nI_lt0, m_otherEnd hi hs (show c < 7 by omega), aI_263, sI_263, len_263, aI_248, sI_248, len_248, hr]
/-- one round of the streets -/
theorem m_jf57 {K46 : Nat → Int32 → Int32 → Int32 → Int32 → ah_H → Option (Int32 × ah_H)} {m r : Nat} (h : MInv σ D) (hm : m < 2147483648) (hr : r < nC D) (fa0 : Nat → Option Nat) (x3 : Int32) : ∀ i k fu τ fa st x5, k + i = nS D → i < fu → JS σ τ D m r fa st → (x5 = 0 ∧ fa = fa0 ∧ JCl D m k fa ∨ x5 = 1 ∧ cnt fa0 (nC D) < cnt fa (nC D)) → ∃ τ' fa' st' x5', f_X12_joinsFrom_57 K46 fu 225 (nI m) x3 (nI (cnt fa (nC D))) (nI x5) (nI k) τ = K46 225 (nI m) x3 (nI (cnt fa' (nC D))) (nI x5') τ' ∧ JS σ τ' D m r fa' st' ∧ (x5' = 0 ∧ fa' = fa0 ∧ JCl D m (nS D) fa' ∨ x5' = 1 ∧ cnt fa0 (nC D) < cnt fa' (nC D)) := by
  have hb := h.bd
  intro i
  induction i with
  | zero =>
    intro k fu τ fa st x5 hk hf hj hx
    obtain ⟨fu, rfl⟩ : ∃ q, fu = q + 1 := ⟨fu - 1, by omega⟩
    have hi := hj.mi h
    have hw := hi.w
    refine ⟨τ, fa, st, x5, ?_, hj, ?_⟩
    · show f_X12_joinsFrom_57_b _ _ _ _ _ _ _ _ _ = _
      unfold f_X12_joinsFrom_57_b f_X12_joinsFrom_206
      simp only [to_bq, l_0, l_1, l_2, l_3, l_4, l_5, l_6, l_7, l_8, l_9, l_10, l_11, l_12, l_13, l_14, l_15, l_16, l_17, l_18, l_19, l_20, l_21, l_22, l_23, l_24, l_25, l_26, l_27, l_28, l_29, l_30, l_31, l_32, l_40, l_41, l_42, l_43, l_44, l_45, l_46, l_47, l_48, l_49, l_50, l_51, l_52, l_53, l_54, l_55, l_56, l_57, l_58, l_59, l_60, l_61, l_62, l_63, l_64, l_72, l_97, l_99, l_100, l_104, l_120, l_122, l_128, l_140, l_255, l_256, l_257, l_258, l_260, l_261, l_262, l_364, l_680, l_700, l_701, l_840, l_999, l_1023, l_1024, l_9999, l_10000, l_1000000, lm]
      simp (disch := first | (with_reducible assumption) | omega | exact ⟨by omega, by omega⟩ | ((with_reducible first | apply Wf.wI | apply Wf.wL | apply Wf.fL | apply Wf.fI | apply Wf.fr); (repeat (with_reducible first | assumption | apply Wf.wI | apply Wf.wL | apply Wf.fL | apply Wf.fI | apply Wf.fr)))) only [ck_225, gI_225, gL_225, pI_225, pZ0_225, pZ1_225, pL_225, gR_225_1, gR_225_3, gR_225_4, gR_225_5, gR_225_6, gR_225_7, gR_225_8, gR_225_9, gR_225_10, gR_225_11, gR_225_12, gR_225_13, gR_225_14, gR_225_15, gR_225_16, gR_225_17, gR_225_18, gR_225_19, gR_225_20, gR_225_21, gR_225_35, gR_225_36, gR_225_38, gR_225_39, gR_225_40, gR_225_41, gR_225_43, gR_225_44, gR_225_45, gR_225_48, gR_225_49, gR_225_50, gR_225_51, gR_225_53, gR_225_54, gR_225_55, gR_225_56, gR_225_58, gR_225_59, gR_225_60, gR_225_61, gR_225_62, gR_225_63, gR_225_66, gR_225_67, bq_n, bd_s, mp_s, rz_0, rz_1, bI_rz, zadd, zmul, zsub, le_nI, lt_nI, eq_nI, neg_nI, gen_nI, neg_lt, neg_le, neg_lt', neg_le', nI_lt0, if_true, if_false, ite_true, ite_false, reduceIte, not_true, not_false, and_true, true_and, and_false, false_and, or_true, true_or, or_false, false_or, eq_self, aI_227, rd_S hi, show (nS D ≤ k) = True from eq_true (by omega)]
    · rw [show k = nS D by omega] at hx; exact hx
  | succ i ih =>
    intro k fu τ fa st x5 hk hf hj hx
    obtain ⟨fu, rfl⟩ : ∃ q, fu = q + 1 := ⟨fu - 1, by omega⟩
    have hi := hj.mi h
    have hw := hi.w
    have hks : k < nS D := by omega
    have ha := h.t.qsAc hks
    have hB := h.t.qsBc hks
    have fb := JS.fb h hj
    have skip : (m.testBit k = true → (fa (sA D k) = none ↔ fa (sB D k) = none)) → f_X12_joinsFrom_57_b K46 (f_X12_joinsFrom_57 K46 fu) 225 (nI m) x3 (nI (cnt fa (nC D))) (nI x5) (nI k) τ = f_X12_joinsFrom_57 K46 fu 225 (nI m) x3 (nI (cnt fa (nC D))) (nI x5) (nI (k + 1)) τ → ∃ τ' fa' st' x5', f_X12_joinsFrom_57_b K46 (f_X12_joinsFrom_57 K46 fu) 225 (nI m) x3 (nI (cnt fa (nC D))) (nI x5) (nI k) τ = K46 225 (nI m) x3 (nI (cnt fa' (nC D))) (nI x5') τ' ∧ JS σ τ' D m r fa' st' ∧ (x5' = 0 ∧ fa' = fa0 ∧ JCl D m (nS D) fa' ∨ x5' = 1 ∧ cnt fa0 (nC D) < cnt fa' (nC D)) := by
      intro z1 z2
      rw [z2]
      refine ih (k + 1) fu τ fa st x5 (by omega) (by omega) hj ?_
      rcases hx with ⟨w1, w2, w3⟩ | hx
      · refine Or.inl ⟨w1, w2, fun s hs hm => ?_⟩
        by_cases q : s = k
        · rw [q] at hm ⊢; exact z1 hm
        · exact w3 s (by omega) hm
      · exact Or.inr hx
    have goes : ∀ c e, tch D k c → m.testBit k = true → fa c = none → fa (oth D k c) = some e → f_X12_joinsFrom_57_b K46 (f_X12_joinsFrom_57 K46 fu) 225 (nI m) x3 (nI (cnt fa (nC D))) (nI x5) (nI k) τ = f_X12_joinsFrom_158 K46 (f_X12_joinsFrom_57 K46 fu) 225 (nI m) x3 (nI (cnt fa (nC D))) (nI k) (nI c) τ → ∃ τ' fa' st' x5', f_X12_joinsFrom_57_b K46 (f_X12_joinsFrom_57 K46 fu) 225 (nI m) x3 (nI (cnt fa (nC D))) (nI x5) (nI k) τ = K46 225 (nI m) x3 (nI (cnt fa' (nC D))) (nI x5') τ' ∧ JS σ τ' D m r fa' st' ∧ (x5' = 0 ∧ fa' = fa0 ∧ JCl D m (nS D) fa' ∨ x5' = 1 ∧ cnt fa0 (nC D) < cnt fa' (nC D)) := by
      intro c e z1 z2 z3 z4 z5
      have hcn : c < nC D := by
        rcases z1 with z | z
        · rw [← z]; exact ha
        · rw [← z]; exact hB
      rw [z5, m_jf158 h hj hks hcn z4]
      have hu := cnt_upo (v := e + 1) z3 (nC D) hcn
      rw [← hu]
      refine ih (k + 1) fu _ _ _ 1 (by omega) (by omega) (hj.add h hks z2 z1 z3 z4) (Or.inr ⟨rfl, ?_⟩)
      rcases hx with ⟨w1, w2, w3⟩ | hx
      · rw [hu, w2]; omega
      · omega
    have eA := hj.2.2.1 _ ha
    have eB := hj.2.2.1 _ hB
    show ∃ τ' fa' st' x5', f_X12_joinsFrom_57_b K46 (f_X12_joinsFrom_57 K46 fu) 225 (nI m) x3 (nI (cnt fa (nC D))) (nI x5) (nI k) τ = _ ∧ _
    by_cases qm : m.testBit k = true
    · by_cases qa : fa (sA D k) = none
      · by_cases qb : fa (sB D k) = none
        · refine skip (fun _ => ⟨fun _ => qb, fun _ => qa⟩) ?_
          unfold f_X12_joinsFrom_57_b f_X12_joinsFrom_98 f_X12_joinsFrom_119 f_X12_joinsFrom_200
          simp only [to_bq, l_0, l_1, l_2, l_3, l_4, l_5, l_6, l_7, l_8, l_9, l_10, l_11, l_12, l_13, l_14, l_15, l_16, l_17, l_18, l_19, l_20, l_21, l_22, l_23, l_24, l_25, l_26, l_27, l_28, l_29, l_30, l_31, l_32, l_40, l_41, l_42, l_43, l_44, l_45, l_46, l_47, l_48, l_49, l_50, l_51, l_52, l_53, l_54, l_55, l_56, l_57, l_58, l_59, l_60, l_61, l_62, l_63, l_64, l_72, l_97, l_99, l_100, l_104, l_120, l_122, l_128, l_140, l_255, l_256, l_257, l_258, l_260, l_261, l_262, l_364, l_680, l_700, l_701, l_840, l_999, l_1023, l_1024, l_9999, l_10000, l_1000000, lm]
          simp (disch := first | (with_reducible assumption) | omega | exact ⟨by omega, by omega⟩ | ((with_reducible first | apply Wf.wI | apply Wf.wL | apply Wf.fL | apply Wf.fI | apply Wf.fr); (repeat (with_reducible first | assumption | apply Wf.wI | apply Wf.wL | apply Wf.fL | apply Wf.fI | apply Wf.fr)))) only [ck_225, gI_225, gL_225, pI_225, pZ0_225, pZ1_225, pL_225, gR_225_1, gR_225_3, gR_225_4, gR_225_5, gR_225_6, gR_225_7, gR_225_8, gR_225_9, gR_225_10, gR_225_11, gR_225_12, gR_225_13, gR_225_14, gR_225_15, gR_225_16, gR_225_17, gR_225_18, gR_225_19, gR_225_20, gR_225_21, gR_225_35, gR_225_36, gR_225_38, gR_225_39, gR_225_40, gR_225_41, gR_225_43, gR_225_44, gR_225_45, gR_225_48, gR_225_49, gR_225_50, gR_225_51, gR_225_53, gR_225_54, gR_225_55, gR_225_56, gR_225_58, gR_225_59, gR_225_60, gR_225_61, gR_225_62, gR_225_63, gR_225_66, gR_225_67, bq_n, bd_s, mp_s, rz_0, rz_1, bI_rz, zadd, zmul, zsub, le_nI, lt_nI, eq_nI, neg_nI, gen_nI, neg_lt, neg_le, neg_lt', neg_le', nI_lt0, if_true, if_false, ite_true, ite_false, reduceIte, not_true, not_false, and_true, true_and, and_false, false_and, or_true, true_or, or_false, false_or, eq_self, aI_227, rd_S hi, show (nS D ≤ k) = False from eq_false (by omega), z_bit hm (show k < 31 by omega), qm, aI_232, aI_233, rd_sA hi hks, rd_sB hi hks, aI_263, sI_263, len_263, eA, eB, qa, qb, show sv none = mI 1 from rfl]
        · cases qb' : fa (sB D k) with
          | none => exact absurd qb' qb
          | some e =>
            refine goes (sA D k) e (Or.inl rfl) qm qa (by unfold oth; rw [if_pos rfl]; exact qb') ?_
            unfold f_X12_joinsFrom_57_b f_X12_joinsFrom_98 f_X12_joinsFrom_119
            simp only [to_bq, l_0, l_1, l_2, l_3, l_4, l_5, l_6, l_7, l_8, l_9, l_10, l_11, l_12, l_13, l_14, l_15, l_16, l_17, l_18, l_19, l_20, l_21, l_22, l_23, l_24, l_25, l_26, l_27, l_28, l_29, l_30, l_31, l_32, l_40, l_41, l_42, l_43, l_44, l_45, l_46, l_47, l_48, l_49, l_50, l_51, l_52, l_53, l_54, l_55, l_56, l_57, l_58, l_59, l_60, l_61, l_62, l_63, l_64, l_72, l_97, l_99, l_100, l_104, l_120, l_122, l_128, l_140, l_255, l_256, l_257, l_258, l_260, l_261, l_262, l_364, l_680, l_700, l_701, l_840, l_999, l_1023, l_1024, l_9999, l_10000, l_1000000, lm]
            have := fb _ _ qb'
            simp (disch := first | (with_reducible assumption) | omega | exact ⟨by omega, by omega⟩ | ((with_reducible first | apply Wf.wI | apply Wf.wL | apply Wf.fL | apply Wf.fI | apply Wf.fr); (repeat (with_reducible first | assumption | apply Wf.wI | apply Wf.wL | apply Wf.fL | apply Wf.fI | apply Wf.fr)))) only [ck_225, gI_225, gL_225, pI_225, pZ0_225, pZ1_225, pL_225, gR_225_1, gR_225_3, gR_225_4, gR_225_5, gR_225_6, gR_225_7, gR_225_8, gR_225_9, gR_225_10, gR_225_11, gR_225_12, gR_225_13, gR_225_14, gR_225_15, gR_225_16, gR_225_17, gR_225_18, gR_225_19, gR_225_20, gR_225_21, gR_225_35, gR_225_36, gR_225_38, gR_225_39, gR_225_40, gR_225_41, gR_225_43, gR_225_44, gR_225_45, gR_225_48, gR_225_49, gR_225_50, gR_225_51, gR_225_53, gR_225_54, gR_225_55, gR_225_56, gR_225_58, gR_225_59, gR_225_60, gR_225_61, gR_225_62, gR_225_63, gR_225_66, gR_225_67, bq_n, bd_s, mp_s, rz_0, rz_1, bI_rz, zadd, zmul, zsub, le_nI, lt_nI, eq_nI, neg_nI, gen_nI, neg_lt, neg_le, neg_lt', neg_le', nI_lt0, if_true, if_false, ite_true, ite_false, reduceIte, not_true, not_false, and_true, true_and, and_false, false_and, or_true, true_or, or_false, false_or, eq_self, aI_227, rd_S hi, show (nS D ≤ k) = False from eq_false (by omega), z_bit hm (show k < 31 by omega), qm, aI_232, aI_233, rd_sA hi hks, rd_sB hi hks, aI_263, sI_263, len_263, eA, eB, qa, qb', show sv none = mI 1 from rfl, show sv (some e) = nI e from rfl, Nat.reduceEqDiff, Nat.reduceAdd, Nat.reduceMul, Nat.reduceSub, Nat.reduceLT, Nat.reduceLeDiff, Nat.add_sub_cancel, Nat.zero_add, Nat.add_zero, Nat.mul_zero, Nat.zero_mul]
      · cases qa' : fa (sA D k) with
        | none => exact absurd qa' qa
        | some e =>
          have := fb _ _ qa'
          by_cases qb : fa (sB D k) = none
          · refine goes (sB D k) e (Or.inr rfl) qm qb (by unfold oth; rw [if_neg (h.t.qsAB hks)]; exact qa') ?_
            unfold f_X12_joinsFrom_57_b f_X12_joinsFrom_98 f_X12_joinsFrom_119
            simp only [to_bq, l_0, l_1, l_2, l_3, l_4, l_5, l_6, l_7, l_8, l_9, l_10, l_11, l_12, l_13, l_14, l_15, l_16, l_17, l_18, l_19, l_20, l_21, l_22, l_23, l_24, l_25, l_26, l_27, l_28, l_29, l_30, l_31, l_32, l_40, l_41, l_42, l_43, l_44, l_45, l_46, l_47, l_48, l_49, l_50, l_51, l_52, l_53, l_54, l_55, l_56, l_57, l_58, l_59, l_60, l_61, l_62, l_63, l_64, l_72, l_97, l_99, l_100, l_104, l_120, l_122, l_128, l_140, l_255, l_256, l_257, l_258, l_260, l_261, l_262, l_364, l_680, l_700, l_701, l_840, l_999, l_1023, l_1024, l_9999, l_10000, l_1000000, lm]
            simp (disch := first | (with_reducible assumption) | omega | exact ⟨by omega, by omega⟩ | ((with_reducible first | apply Wf.wI | apply Wf.wL | apply Wf.fL | apply Wf.fI | apply Wf.fr); (repeat (with_reducible first | assumption | apply Wf.wI | apply Wf.wL | apply Wf.fL | apply Wf.fI | apply Wf.fr)))) only [ck_225, gI_225, gL_225, pI_225, pZ0_225, pZ1_225, pL_225, gR_225_1, gR_225_3, gR_225_4, gR_225_5, gR_225_6, gR_225_7, gR_225_8, gR_225_9, gR_225_10, gR_225_11, gR_225_12, gR_225_13, gR_225_14, gR_225_15, gR_225_16, gR_225_17, gR_225_18, gR_225_19, gR_225_20, gR_225_21, gR_225_35, gR_225_36, gR_225_38, gR_225_39, gR_225_40, gR_225_41, gR_225_43, gR_225_44, gR_225_45, gR_225_48, gR_225_49, gR_225_50, gR_225_51, gR_225_53, gR_225_54, gR_225_55, gR_225_56, gR_225_58, gR_225_59, gR_225_60, gR_225_61, gR_225_62, gR_225_63, gR_225_66, gR_225_67, bq_n, bd_s, mp_s, rz_0, rz_1, bI_rz, zadd, zmul, zsub, le_nI, lt_nI, eq_nI, neg_nI, gen_nI, neg_lt, neg_le, neg_lt', neg_le', nI_lt0, if_true, if_false, ite_true, ite_false, reduceIte, not_true, not_false, and_true, true_and, and_false, false_and, or_true, true_or, or_false, false_or, eq_self, aI_227, rd_S hi, show (nS D ≤ k) = False from eq_false (by omega), z_bit hm (show k < 31 by omega), qm, aI_232, aI_233, rd_sA hi hks, rd_sB hi hks, aI_263, sI_263, len_263, eA, eB, qa', qb, show sv none = mI 1 from rfl, show sv (some e) = nI e from rfl, Nat.reduceEqDiff, Nat.reduceAdd, Nat.reduceMul, Nat.reduceSub, Nat.reduceLT, Nat.reduceLeDiff, Nat.add_sub_cancel, Nat.zero_add, Nat.add_zero, Nat.mul_zero, Nat.zero_mul]
          · cases qb' : fa (sB D k) with
            | none => exact absurd qb' qb
            | some e2 =>
              have := fb _ _ qb'
              refine skip (fun _ => ⟨fun z => absurd z qa, fun z => absurd z qb⟩) ?_
              unfold f_X12_joinsFrom_57_b f_X12_joinsFrom_98 f_X12_joinsFrom_119 f_X12_joinsFrom_200
              simp only [to_bq, l_0, l_1, l_2, l_3, l_4, l_5, l_6, l_7, l_8, l_9, l_10, l_11, l_12, l_13, l_14, l_15, l_16, l_17, l_18, l_19, l_20, l_21, l_22, l_23, l_24, l_25, l_26, l_27, l_28, l_29, l_30, l_31, l_32, l_40, l_41, l_42, l_43, l_44, l_45, l_46, l_47, l_48, l_49, l_50, l_51, l_52, l_53, l_54, l_55, l_56, l_57, l_58, l_59, l_60, l_61, l_62, l_63, l_64, l_72, l_97, l_99, l_100, l_104, l_120, l_122, l_128, l_140, l_255, l_256, l_257, l_258, l_260, l_261, l_262, l_364, l_680, l_700, l_701, l_840, l_999, l_1023, l_1024, l_9999, l_10000, l_1000000, lm]
              simp (disch := first | (with_reducible assumption) | omega | exact ⟨by omega, by omega⟩ | ((with_reducible first | apply Wf.wI | apply Wf.wL | apply Wf.fL | apply Wf.fI | apply Wf.fr); (repeat (with_reducible first | assumption | apply Wf.wI | apply Wf.wL | apply Wf.fL | apply Wf.fI | apply Wf.fr)))) only [ck_225, gI_225, gL_225, pI_225, pZ0_225, pZ1_225, pL_225, gR_225_1, gR_225_3, gR_225_4, gR_225_5, gR_225_6, gR_225_7, gR_225_8, gR_225_9, gR_225_10, gR_225_11, gR_225_12, gR_225_13, gR_225_14, gR_225_15, gR_225_16, gR_225_17, gR_225_18, gR_225_19, gR_225_20, gR_225_21, gR_225_35, gR_225_36, gR_225_38, gR_225_39, gR_225_40, gR_225_41, gR_225_43, gR_225_44, gR_225_45, gR_225_48, gR_225_49, gR_225_50, gR_225_51, gR_225_53, gR_225_54, gR_225_55, gR_225_56, gR_225_58, gR_225_59, gR_225_60, gR_225_61, gR_225_62, gR_225_63, gR_225_66, gR_225_67, bq_n, bd_s, mp_s, rz_0, rz_1, bI_rz, zadd, zmul, zsub, le_nI, lt_nI, eq_nI, neg_nI, gen_nI, neg_lt, neg_le, neg_lt', neg_le', nI_lt0, if_true, if_false, ite_true, ite_false, reduceIte, not_true, not_false, and_true, true_and, and_false, false_and, or_true, true_or, or_false, false_or, eq_self, aI_227, rd_S hi, show (nS D ≤ k) = False from eq_false (by omega), z_bit hm (show k < 31 by omega), qm, aI_232, aI_233, rd_sA hi hks, rd_sB hi hks, aI_263, sI_263, len_263, eA, eB, qa', qb', show sv (some e) = nI e from rfl, show sv (some e2) = nI e2 from rfl]
    · refine skip (fun z => absurd z qm) ?_
      unfold f_X12_joinsFrom_57_b f_X12_joinsFrom_200
      simp only [to_bq, l_0, l_1, l_2, l_3, l_4, l_5, l_6, l_7, l_8, l_9, l_10, l_11, l_12, l_13, l_14, l_15, l_16, l_17, l_18, l_19, l_20, l_21, l_22, l_23, l_24, l_25, l_26, l_27, l_28, l_29, l_30, l_31, l_32, l_40, l_41, l_42, l_43, l_44, l_45, l_46, l_47, l_48, l_49, l_50, l_51, l_52, l_53, l_54, l_55, l_56, l_57, l_58, l_59, l_60, l_61, l_62, l_63, l_64, l_72, l_97, l_99, l_100, l_104, l_120, l_122, l_128, l_140, l_255, l_256, l_257, l_258, l_260, l_261, l_262, l_364, l_680, l_700, l_701, l_840, l_999, l_1023, l_1024, l_9999, l_10000, l_1000000, lm]
      simp (disch := first | (with_reducible assumption) | omega | exact ⟨by omega, by omega⟩ | ((with_reducible first | apply Wf.wI | apply Wf.wL | apply Wf.fL | apply Wf.fI | apply Wf.fr); (repeat (with_reducible first | assumption | apply Wf.wI | apply Wf.wL | apply Wf.fL | apply Wf.fI | apply Wf.fr)))) only [ck_225, gI_225, gL_225, pI_225, pZ0_225, pZ1_225, pL_225, gR_225_1, gR_225_3, gR_225_4, gR_225_5, gR_225_6, gR_225_7, gR_225_8, gR_225_9, gR_225_10, gR_225_11, gR_225_12, gR_225_13, gR_225_14, gR_225_15, gR_225_16, gR_225_17, gR_225_18, gR_225_19, gR_225_20, gR_225_21, gR_225_35, gR_225_36, gR_225_38, gR_225_39, gR_225_40, gR_225_41, gR_225_43, gR_225_44, gR_225_45, gR_225_48, gR_225_49, gR_225_50, gR_225_51, gR_225_53, gR_225_54, gR_225_55, gR_225_56, gR_225_58, gR_225_59, gR_225_60, gR_225_61, gR_225_62, gR_225_63, gR_225_66, gR_225_67, bq_n, bd_s, mp_s, rz_0, rz_1, bI_rz, zadd, zmul, zsub, le_nI, lt_nI, eq_nI, neg_nI, gen_nI, neg_lt, neg_le, neg_lt', neg_le', nI_lt0, if_true, if_false, ite_true, ite_false, reduceIte, not_true, not_false, and_true, true_and, and_false, false_and, or_true, true_or, or_false, false_or, eq_self, aI_227, rd_S hi, show (nS D ≤ k) = False from eq_false (by omega), z_bit hm (show k < 31 by omega), qm]
      rw [if_pos (by intro z; cases z)]
/-- all rounds -/
theorem m_jf46 {m r : Nat} (h : MInv σ D) (hm : m < 2147483648) (hr : r < nC D) : ∀ i fu τ fa st x5, nC D - cnt fa (nC D) + x5 ≤ i → i < fu → JS σ τ D m r fa st → (x5 = 0 ∧ JCl D m (nS D) fa ∨ x5 = 1) → ∃ τ' fa' st', f_X12_joinsFrom_46 fu 225 (nI m) (nI (nC D)) (nI (cnt fa (nC D))) (nI x5) τ = some (cI (∀ c, c < nC D → Ujn D m r c), τ') ∧ JS σ τ' D m r fa' st' ∧ JCl D m (nS D) fa' := by
  have hb := h.bd
  have fin : ∀ fu τ fa st, JS σ τ D m r fa st → JCl D m (nS D) fa → ∃ τ' fa' st', f_X12_joinsFrom_46 (fu + 1) 225 (nI m) (nI (nC D)) (nI (cnt fa (nC D))) (nI 0) τ = some (cI (∀ c, c < nC D → Ujn D m r c), τ') ∧ JS σ τ' D m r fa' st' ∧ JCl D m (nS D) fa' := by
    intro fu τ fa st hj hc
    refine ⟨τ, fa, st, ?_, hj, hc⟩
    have hl := cnt_le fa (nC D)
    show f_X12_joinsFrom_46_b _ _ _ _ _ _ _ = _
    unfold f_X12_joinsFrom_46_b f_X12_joinsFrom_209
    simp only [to_bq, l_0, l_1, l_2, l_3, l_4, l_5, l_6, l_7, l_8, l_9, l_10, l_11, l_12, l_13, l_14, l_15, l_16, l_17, l_18, l_19, l_20, l_21, l_22, l_23, l_24, l_25, l_26, l_27, l_28, l_29, l_30, l_31, l_32, l_40, l_41, l_42, l_43, l_44, l_45, l_46, l_47, l_48, l_49, l_50, l_51, l_52, l_53, l_54, l_55, l_56, l_57, l_58, l_59, l_60, l_61, l_62, l_63, l_64, l_72, l_97, l_99, l_100, l_104, l_120, l_122, l_128, l_140, l_255, l_256, l_257, l_258, l_260, l_261, l_262, l_364, l_680, l_700, l_701, l_840, l_999, l_1023, l_1024, l_9999, l_10000, l_1000000, lm]
    rw [if_pos trivial, ← cI_eq (hj.2.1.all h.t hc)]
    by_cases q : cnt fa (nC D) = nC D
    · rw [if_pos (by rw [q]), cI_t q]; rfl
    · rw [if_neg (by rw [eq_nI (by omega) (by omega)]; exact q), cI_f q]; rfl
  intro i
  induction i with
  | zero =>
    intro fu τ fa st x5 h1 h2 hj hx
    obtain ⟨fu, rfl⟩ : ∃ q, fu = q + 1 := ⟨fu - 1, by omega⟩
    rcases hx with ⟨rfl, hx⟩ | rfl
    · exact fin fu τ fa st hj hx
    · omega
  | succ i ih =>
    intro fu τ fa st x5 h1 h2 hj hx
    obtain ⟨fu, rfl⟩ : ∃ q, fu = q + 1 := ⟨fu - 1, by omega⟩
    rcases hx with ⟨rfl, hx⟩ | rfl
    · exact fin fu τ fa st hj hx
    · obtain ⟨τ', fa', st', x5', e1, e2, e3⟩ := m_jf57 (K46 := f_X12_joinsFrom_46 fu) h hm hr fa (nI (nC D)) (nS D) 0 5000 τ fa st 0 (by omega) (by omega) hj (Or.inl ⟨rfl, rfl, fun s hs => by omega⟩)
      have e0 : f_X12_joinsFrom_46 (fu + 1) 225 (nI m) (nI (nC D)) (nI (cnt fa (nC D))) (nI 1) τ = f_X12_joinsFrom_57 (f_X12_joinsFrom_46 fu) 5000 225 (nI m) (nI (nC D)) (nI (cnt fa (nC D))) (nI 0) (nI 0) τ := by
        show f_X12_joinsFrom_46_b _ _ _ _ _ _ _ = _
        unfold f_X12_joinsFrom_46_b
        simp only [to_bq, l_0, l_1, l_2, l_3, l_4, l_5, l_6, l_7, l_8, l_9, l_10, l_11, l_12, l_13, l_14, l_15, l_16, l_17, l_18, l_19, l_20, l_21, l_22, l_23, l_24, l_25, l_26, l_27, l_28, l_29, l_30, l_31, l_32, l_40, l_41, l_42, l_43, l_44, l_45, l_46, l_47, l_48, l_49, l_50, l_51, l_52, l_53, l_54, l_55, l_56, l_57, l_58, l_59, l_60, l_61, l_62, l_63, l_64, l_72, l_97, l_99, l_100, l_104, l_120, l_122, l_128, l_140, l_255, l_256, l_257, l_258, l_260, l_261, l_262, l_364, l_680, l_700, l_701, l_840, l_999, l_1023, l_1024, l_9999, l_10000, l_1000000, lm]
        rw [if_neg (by decide)]
      rw [e0, e1]
      have hl := cnt_le fa' (nC D)
      rcases e3 with ⟨rfl, e3, e4⟩ | ⟨rfl, e3⟩
      · exact ih fu τ' fa' st' 0 (by rw [e3]; omega) (by omega) e2 (Or.inl ⟨rfl, e4⟩)
      · exact ih fu τ' fa' st' 1 (by omega) (by omega) e2 (Or.inr rfl)
theorem cnt_none : ∀ n, cnt (fun _ => none) n = 0 := by
  intro n
  induction n with
  | zero => rfl
  | succ n ih => show cnt _ n + (if none = none then 0 else 1) = 0; rw [ih, if_pos rfl]
def fa1 (r : Nat) : Nat → Option Nat := upo (fun _ => none) r 0
theorem fa1_c {n r : Nat} (h : r < n) : cnt (fa1 r) n = 1 := by
  unfold fa1
  rw [cnt_upo rfl n h, cnt_none]
theorem JP.init {m r : Nat} (hr : r < nC D) : JP D m r (fa1 r) (fun _ => none) := by
  refine ⟨upo_e, rfl, fun c _ hc d hd => ?_, fun c hc => upo_n (by omega), fun _ _ => rfl, fun c d hd => ?_⟩
  · rw [show fa1 r c = none from upo_n hc] at hd; cases hd
  · rw [fa1_c hr]
    by_cases q : c = r
    · rw [q, show fa1 r r = some 0 from upo_e] at hd; cases hd; omega
    · rw [show fa1 r c = none from upo_n q] at hd; cases hd
theorem m_jf10 {m r : Nat} (h : MInv σ D) (hr : r < nC D) : ∀ i k fu τ, k + i = nC D → i < fu → Fr Xjf σ τ → (∀ c, c < k → ah_I τ 263 c = sv (fa1 r c)) → (∀ c, ah_I τ 248 c = ah_I σ 248 c) → ∃ τ', f_X12_joinsFrom_10 fu 225 (nI m) (nI r) (nI (nC D)) (nI k) τ = f_X12_joinsFrom_40 225 (nI m) (nI (nC D)) τ' ∧ JS σ τ' D m r (fa1 r) (fun _ => none) := by
  have hb := h.bd
  intro i
  induction i with
  | zero =>
    intro k fu τ hk hf g h1 h2
    obtain ⟨fu, rfl⟩ : ∃ q, fu = q + 1 := ⟨fu - 1, by omega⟩
    refine ⟨τ, ?_, g, JP.init hr, fun c hc => h1 c (by omega), fun c hc => h2 _⟩
    show f_X12_joinsFrom_10_b _ _ _ _ _ _ _ = _
    unfold f_X12_joinsFrom_10_b
    simp only [to_bq, l_0, l_1, l_2, l_3, l_4, l_5, l_6, l_7, l_8, l_9, l_10, l_11, l_12, l_13, l_14, l_15, l_16, l_17, l_18, l_19, l_20, l_21, l_22, l_23, l_24, l_25, l_26, l_27, l_28, l_29, l_30, l_31, l_32, l_40, l_41, l_42, l_43, l_44, l_45, l_46, l_47, l_48, l_49, l_50, l_51, l_52, l_53, l_54, l_55, l_56, l_57, l_58, l_59, l_60, l_61, l_62, l_63, l_64, l_72, l_97, l_99, l_100, l_104, l_120, l_122, l_128, l_140, l_255, l_256, l_257, l_258, l_260, l_261, l_262, l_364, l_680, l_700, l_701, l_840, l_999, l_1023, l_1024, l_9999, l_10000, l_1000000, lm]
    rw [if_pos (by rw [le_nI (by omega) (by omega)]; omega)]
  | succ i ih =>
    intro k fu τ hk hf g h1 h2
    obtain ⟨fu, rfl⟩ : ∃ q, fu = q + 1 := ⟨fu - 1, by omega⟩
    have hw := (h.q (g.mono Xjf_q)).w
    have hk7 : k < 7 := by omega
    have e0 : f_X12_joinsFrom_10 (fu + 1) 225 (nI m) (nI r) (nI (nC D)) (nI k) τ = f_X12_joinsFrom_10 fu 225 (nI m) (nI r) (nI (nC D)) (nI (k + 1)) (ah_wI τ 263 k (sv (fa1 r k))) := by
      show f_X12_joinsFrom_10_b _ _ _ _ _ _ _ = _
      unfold f_X12_joinsFrom_10_b f_X12_joinsFrom_33
      simp only [to_bq, l_0, l_1, l_2, l_3, l_4, l_5, l_6, l_7, l_8, l_9, l_10, l_11, l_12, l_13, l_14, l_15, l_16, l_17, l_18, l_19, l_20, l_21, l_22, l_23, l_24, l_25, l_26, l_27, l_28, l_29, l_30, l_31, l_32, l_40, l_41, l_42, l_43, l_44, l_45, l_46, l_47, l_48, l_49, l_50, l_51, l_52, l_53, l_54, l_55, l_56, l_57, l_58, l_59, l_60, l_61, l_62, l_63, l_64, l_72, l_97, l_99, l_100, l_104, l_120, l_122, l_128, l_140, l_255, l_256, l_257, l_258, l_260, l_261, l_262, l_364, l_680, l_700, l_701, l_840, l_999, l_1023, l_1024, l_9999, l_10000, l_1000000, lm]
      rw [if_neg (by rw [le_nI (by omega) (by omega)]; omega)]
      by_cases q : k = r
      · have : fa1 r k = some 0 := by rw [q]; exact upo_e
        simp (disch := first | (with_reducible assumption) | omega | exact ⟨by omega, by omega⟩ | ((with_reducible first | apply Wf.wI | apply Wf.wL | apply Wf.fL | apply Wf.fI | apply Wf.fr); (repeat (with_reducible first | assumption | apply Wf.wI | apply Wf.wL | apply Wf.fL | apply Wf.fI | apply Wf.fr)))) only [ck_225, gI_225, gL_225, pI_225, pZ0_225, pZ1_225, pL_225, gR_225_1, gR_225_3, gR_225_4, gR_225_5, gR_225_6, gR_225_7, gR_225_8, gR_225_9, gR_225_10, gR_225_11, gR_225_12, gR_225_13, gR_225_14, gR_225_15, gR_225_16, gR_225_17, gR_225_18, gR_225_19, gR_225_20, gR_225_21, gR_225_35, gR_225_36, gR_225_38, gR_225_39, gR_225_40, gR_225_41, gR_225_43, gR_225_44, gR_225_45, gR_225_48, gR_225_49, gR_225_50, gR_225_51, gR_225_53, gR_225_54, gR_225_55, gR_225_56, gR_225_58, gR_225_59, gR_225_60, gR_225_61, gR_225_62, gR_225_63, gR_225_66, gR_225_67, bq_n, bd_s, mp_s, rz_0, rz_1, bI_rz, zadd, zmul, zsub, le_nI, lt_nI, eq_nI, neg_nI, gen_nI, neg_lt, neg_le, neg_lt', neg_le', nI_lt0, if_true, if_false, ite_true, ite_false, reduceIte, not_true, not_false, and_true, true_and, and_false, false_and, or_true, true_or, or_false, false_or, eq_self, aI_263, sI_263, len_263, q, this, show sv (some 0) = nI 0 from rfl]
        rw [← q, show fa1 k k = some 0 from upo_e]; rfl
      · have : fa1 r k = none := upo_n q
        simp (disch := first | (with_reducible assumption) | omega | exact ⟨by omega, by omega⟩ | ((with_reducible first | apply Wf.wI | apply Wf.wL | apply Wf.fL | apply Wf.fI | apply Wf.fr); (repeat (with_reducible first | assumption | apply Wf.wI | apply Wf.wL | apply Wf.fL | apply Wf.fI | apply Wf.fr)))) only [ck_225, gI_225, gL_225, pI_225, pZ0_225, pZ1_225, pL_225, gR_225_1, gR_225_3, gR_225_4, gR_225_5, gR_225_6, gR_225_7, gR_225_8, gR_225_9, gR_225_10, gR_225_11, gR_225_12, gR_225_13, gR_225_14, gR_225_15, gR_225_16, gR_225_17, gR_225_18, gR_225_19, gR_225_20, gR_225_21, gR_225_35, gR_225_36, gR_225_38, gR_225_39, gR_225_40, gR_225_41, gR_225_43, gR_225_44, gR_225_45, gR_225_48, gR_225_49, gR_225_50, gR_225_51, gR_225_53, gR_225_54, gR_225_55, gR_225_56, gR_225_58, gR_225_59, gR_225_60, gR_225_61, gR_225_62, gR_225_63, gR_225_66, gR_225_67, bq_n, bd_s, mp_s, rz_0, rz_1, bI_rz, zadd, zmul, zsub, le_nI, lt_nI, eq_nI, neg_nI, gen_nI, neg_lt, neg_le, neg_lt', neg_le', nI_lt0, if_true, if_false, ite_true, ite_false, reduceIte, not_true, not_false, and_true, true_and, and_false, false_and, or_true, true_or, or_false, false_or, eq_self, aI_263, sI_263, len_263, q, this, show sv none = mI 1 from rfl]
    rw [e0]
    refine ih (k + 1) fu _ (by omega) (by omega) (g.wI (Or.inl rfl)) (fun c hc => ?_) (fun c => ?_)
    · by_cases q : c = k
      · rw [q, rI_eq]
      · rw [rI_ne (by omega)]; exact h1 c (by omega)
    · rw [rI_ne (by omega)]; exact h2 c
theorem m_joinsFrom {m r : Nat} (h : MInv σ D) (hm : m < 2147483648) (hr : r < nC D) : ∃ τ fa st, f_X12_joinsFrom 225 (nI m) (nI r) σ = some (cI (∀ c, c < nC D → Ujn D m r c), τ) ∧ JS σ τ D m r fa st ∧ JCl D m (nS D) fa := by
  have hb := h.bd
  have hw := h.w
  obtain ⟨τ, e1, e2⟩ := m_jf10 (m := m) h hr (nC D) 0 5000 σ (by omega) (by omega) Fr.rfl (fun c hc => by omega) (fun c => rfl)
  obtain ⟨τ', fa, st, e3, e4, e5⟩ := m_jf46 h hm hr (nC D) 5000 τ (fa1 r) (fun _ => none) 1 (by rw [fa1_c hr]; omega) (by omega) e2 (Or.inr rfl)
  refine ⟨τ', fa, st, ?_, e4, e5⟩
  unfold f_X12_joinsFrom f_X12_joinsFrom_0
  simp only [to_bq, l_0, l_1, l_2, l_3, l_4, l_5, l_6, l_7, l_8, l_9, l_10, l_11, l_12, l_13, l_14, l_15, l_16, l_17, l_18, l_19, l_20, l_21, l_22, l_23, l_24, l_25, l_26, l_27, l_28, l_29, l_30, l_31, l_32, l_40, l_41, l_42, l_43, l_44, l_45, l_46, l_47, l_48, l_49, l_50, l_51, l_52, l_53, l_54, l_55, l_56, l_57, l_58, l_59, l_60, l_61, l_62, l_63, l_64, l_72, l_97, l_99, l_100, l_104, l_120, l_122, l_128, l_140, l_255, l_256, l_257, l_258, l_260, l_261, l_262, l_364, l_680, l_700, l_701, l_840, l_999, l_1023, l_1024, l_9999, l_10000, l_1000000, lm]
  simp (disch := first | (with_reducible assumption) | omega | exact ⟨by omega, by omega⟩ | ((with_reducible first | apply Wf.wI | apply Wf.wL | apply Wf.fL | apply Wf.fI | apply Wf.fr); (repeat (with_reducible first | assumption | apply Wf.wI | apply Wf.wL | apply Wf.fL | apply Wf.fI | apply Wf.fr)))) only [ck_225, gI_225, gL_225, pI_225, pZ0_225, pZ1_225, pL_225, gR_225_1, gR_225_3, gR_225_4, gR_225_5, gR_225_6, gR_225_7, gR_225_8, gR_225_9, gR_225_10, gR_225_11, gR_225_12, gR_225_13, gR_225_14, gR_225_15, gR_225_16, gR_225_17, gR_225_18, gR_225_19, gR_225_20, gR_225_21, gR_225_35, gR_225_36, gR_225_38, gR_225_39, gR_225_40, gR_225_41, gR_225_43, gR_225_44, gR_225_45, gR_225_48, gR_225_49, gR_225_50, gR_225_51, gR_225_53, gR_225_54, gR_225_55, gR_225_56, gR_225_58, gR_225_59, gR_225_60, gR_225_61, gR_225_62, gR_225_63, gR_225_66, gR_225_67, bq_n, bd_s, mp_s, rz_0, rz_1, bI_rz, zadd, zmul, zsub, le_nI, lt_nI, eq_nI, neg_nI, gen_nI, neg_lt, neg_le, neg_lt', neg_le', nI_lt0, if_true, if_false, ite_true, ite_false, reduceIte, not_true, not_false, and_true, true_and, and_false, false_and, or_true, true_or, or_false, false_or, eq_self, aI_227, rd_C h]
  rw [e1, ← e3, fa1_c hr]
  rfl
theorem m_isTree_n {m : Nat} (h : MInv σ D) (hm : m < 2 ^ nS D) : ∃ τ, f_X12_isTree 225 (nI m) σ = some (cI (TrQ D m), τ) ∧ Fr Xjf σ τ := by
  have hb := h.bd
  have hw := h.w
  have h2 : 2 ^ nS D ≤ 2 ^ 10 := Nat.pow_le_pow_right (by omega) hb.2.1
  have hp := pcnt_le m 31
  by_cases q0 : nC D = 0
  · refine ⟨σ, ?_, Fr.rfl⟩
    unfold f_X12_isTree f_X12_isTree_0
    simp only [to_bq, l_0, l_1, l_2, l_3, l_4, l_5, l_6, l_7, l_8, l_9, l_10, l_11, l_12, l_13, l_14, l_15, l_16, l_17, l_18, l_19, l_20, l_21, l_22, l_23, l_24, l_25, l_26, l_27, l_28, l_29, l_30, l_31, l_32, l_40, l_41, l_42, l_43, l_44, l_45, l_46, l_47, l_48, l_49, l_50, l_51, l_52, l_53, l_54, l_55, l_56, l_57, l_58, l_59, l_60, l_61, l_62, l_63, l_64, l_72, l_97, l_99, l_100, l_104, l_120, l_122, l_128, l_140, l_255, l_256, l_257, l_258, l_260, l_261, l_262, l_364, l_680, l_700, l_701, l_840, l_999, l_1023, l_1024, l_9999, l_10000, l_1000000, lm]
    simp (disch := first | (with_reducible assumption) | omega | exact ⟨by omega, by omega⟩ | ((with_reducible first | apply Wf.wI | apply Wf.wL | apply Wf.fL | apply Wf.fI | apply Wf.fr); (repeat (with_reducible first | assumption | apply Wf.wI | apply Wf.wL | apply Wf.fL | apply Wf.fI | apply Wf.fr)))) only [ck_225, gI_225, gL_225, pI_225, pZ0_225, pZ1_225, pL_225, gR_225_1, gR_225_3, gR_225_4, gR_225_5, gR_225_6, gR_225_7, gR_225_8, gR_225_9, gR_225_10, gR_225_11, gR_225_12, gR_225_13, gR_225_14, gR_225_15, gR_225_16, gR_225_17, gR_225_18, gR_225_19, gR_225_20, gR_225_21, gR_225_35, gR_225_36, gR_225_38, gR_225_39, gR_225_40, gR_225_41, gR_225_43, gR_225_44, gR_225_45, gR_225_48, gR_225_49, gR_225_50, gR_225_51, gR_225_53, gR_225_54, gR_225_55, gR_225_56, gR_225_58, gR_225_59, gR_225_60, gR_225_61, gR_225_62, gR_225_63, gR_225_66, gR_225_67, bq_n, bd_s, mp_s, rz_0, rz_1, bI_rz, zadd, zmul, zsub, le_nI, lt_nI, eq_nI, neg_nI, gen_nI, neg_lt, neg_le, neg_lt', neg_le', nI_lt0, if_true, if_false, ite_true, ite_false, reduceIte, not_true, not_false, and_true, true_and, and_false, false_and, or_true, true_or, or_false, false_or, eq_self, aI_227, rd_C h, rd_S h, z_one (show nS D < 31 by omega), q0]
    rw [if_neg (by omega), if_neg (by omega), cI_f]
    · rintro ⟨-, z, -⟩; omega
  by_cases q1 : pcnt m 31 + 1 = nC D
  · obtain ⟨τ, fa, st, e1, e2, -⟩ := m_joinsFrom (m := m) (r := 0) h (by omega) (by omega)
    refine ⟨τ, ?_, e2.1⟩
    unfold f_X12_isTree f_X12_isTree_0
    simp only [to_bq, l_0, l_1, l_2, l_3, l_4, l_5, l_6, l_7, l_8, l_9, l_10, l_11, l_12, l_13, l_14, l_15, l_16, l_17, l_18, l_19, l_20, l_21, l_22, l_23, l_24, l_25, l_26, l_27, l_28, l_29, l_30, l_31, l_32, l_40, l_41, l_42, l_43, l_44, l_45, l_46, l_47, l_48, l_49, l_50, l_51, l_52, l_53, l_54, l_55, l_56, l_57, l_58, l_59, l_60, l_61, l_62, l_63, l_64, l_72, l_97, l_99, l_100, l_104, l_120, l_122, l_128, l_140, l_255, l_256, l_257, l_258, l_260, l_261, l_262, l_364, l_680, l_700, l_701, l_840, l_999, l_1023, l_1024, l_9999, l_10000, l_1000000, lm]
    simp (disch := first | (with_reducible assumption) | omega | exact ⟨by omega, by omega⟩ | ((with_reducible first | apply Wf.wI | apply Wf.wL | apply Wf.fL | apply Wf.fI | apply Wf.fr); (repeat (with_reducible first | assumption | apply Wf.wI | apply Wf.wL | apply Wf.fL | apply Wf.fI | apply Wf.fr)))) only [ck_225, gI_225, gL_225, pI_225, pZ0_225, pZ1_225, pL_225, gR_225_1, gR_225_3, gR_225_4, gR_225_5, gR_225_6, gR_225_7, gR_225_8, gR_225_9, gR_225_10, gR_225_11, gR_225_12, gR_225_13, gR_225_14, gR_225_15, gR_225_16, gR_225_17, gR_225_18, gR_225_19, gR_225_20, gR_225_21, gR_225_35, gR_225_36, gR_225_38, gR_225_39, gR_225_40, gR_225_41, gR_225_43, gR_225_44, gR_225_45, gR_225_48, gR_225_49, gR_225_50, gR_225_51, gR_225_53, gR_225_54, gR_225_55, gR_225_56, gR_225_58, gR_225_59, gR_225_60, gR_225_61, gR_225_62, gR_225_63, gR_225_66, gR_225_67, bq_n, bd_s, mp_s, rz_0, rz_1, bI_rz, zadd, zmul, zsub, le_nI, lt_nI, eq_nI, neg_nI, gen_nI, neg_lt, neg_le, neg_lt', neg_le', nI_lt0, if_true, if_false, ite_true, ite_false, reduceIte, not_true, not_false, and_true, true_and, and_false, false_and, or_true, true_or, or_false, false_or, eq_self, aI_227, rd_C h, rd_S h, z_one (show nS D < 31 by omega), m_bitsOf (show m < 2147483648 by omega), e1, cI_rz]
    rw [if_neg (by omega), if_neg (by omega), if_neg q0, if_pos (by omega), cI_eq (show TrQ D m ↔ _ from ⟨fun z => z.2.2, fun z => ⟨hm, q1, z⟩⟩)]
  · refine ⟨σ, ?_, Fr.rfl⟩
    unfold f_X12_isTree f_X12_isTree_0
    simp only [to_bq, l_0, l_1, l_2, l_3, l_4, l_5, l_6, l_7, l_8, l_9, l_10, l_11, l_12, l_13, l_14, l_15, l_16, l_17, l_18, l_19, l_20, l_21, l_22, l_23, l_24, l_25, l_26, l_27, l_28, l_29, l_30, l_31, l_32, l_40, l_41, l_42, l_43, l_44, l_45, l_46, l_47, l_48, l_49, l_50, l_51, l_52, l_53, l_54, l_55, l_56, l_57, l_58, l_59, l_60, l_61, l_62, l_63, l_64, l_72, l_97, l_99, l_100, l_104, l_120, l_122, l_128, l_140, l_255, l_256, l_257, l_258, l_260, l_261, l_262, l_364, l_680, l_700, l_701, l_840, l_999, l_1023, l_1024, l_9999, l_10000, l_1000000, lm]
    simp (disch := first | (with_reducible assumption) | omega | exact ⟨by omega, by omega⟩ | ((with_reducible first | apply Wf.wI | apply Wf.wL | apply Wf.fL | apply Wf.fI | apply Wf.fr); (repeat (with_reducible first | assumption | apply Wf.wI | apply Wf.wL | apply Wf.fL | apply Wf.fI | apply Wf.fr)))) only [ck_225, gI_225, gL_225, pI_225, pZ0_225, pZ1_225, pL_225, gR_225_1, gR_225_3, gR_225_4, gR_225_5, gR_225_6, gR_225_7, gR_225_8, gR_225_9, gR_225_10, gR_225_11, gR_225_12, gR_225_13, gR_225_14, gR_225_15, gR_225_16, gR_225_17, gR_225_18, gR_225_19, gR_225_20, gR_225_21, gR_225_35, gR_225_36, gR_225_38, gR_225_39, gR_225_40, gR_225_41, gR_225_43, gR_225_44, gR_225_45, gR_225_48, gR_225_49, gR_225_50, gR_225_51, gR_225_53, gR_225_54, gR_225_55, gR_225_56, gR_225_58, gR_225_59, gR_225_60, gR_225_61, gR_225_62, gR_225_63, gR_225_66, gR_225_67, bq_n, bd_s, mp_s, rz_0, rz_1, bI_rz, zadd, zmul, zsub, le_nI, lt_nI, eq_nI, neg_nI, gen_nI, neg_lt, neg_le, neg_lt', neg_le', nI_lt0, if_true, if_false, ite_true, ite_false, reduceIte, not_true, not_false, and_true, true_and, and_false, false_and, or_true, true_or, or_false, false_or, eq_self, aI_227, rd_C h, rd_S h, z_one (show nS D < 31 by omega), m_bitsOf (show m < 2147483648 by omega)]
    rw [if_neg (by omega), if_neg (by omega), if_neg q0, if_neg (by omega), cI_f]
    · rintro ⟨-, z, -⟩; exact q1 z
theorem m_isTree_o {x : Int32} (h : MInv σ D) (hx : x < nI 0 ∨ nI (2 ^ nS D) ≤ x) : f_X12_isTree 225 x σ = some (nI 0, σ) := by
  have hb := h.bd
  have hw := h.w
  unfold f_X12_isTree f_X12_isTree_0
  simp only [to_bq, l_0, l_1, l_2, l_3, l_4, l_5, l_6, l_7, l_8, l_9, l_10, l_11, l_12, l_13, l_14, l_15, l_16, l_17, l_18, l_19, l_20, l_21, l_22, l_23, l_24, l_25, l_26, l_27, l_28, l_29, l_30, l_31, l_32, l_40, l_41, l_42, l_43, l_44, l_45, l_46, l_47, l_48, l_49, l_50, l_51, l_52, l_53, l_54, l_55, l_56, l_57, l_58, l_59, l_60, l_61, l_62, l_63, l_64, l_72, l_97, l_99, l_100, l_104, l_120, l_122, l_128, l_140, l_255, l_256, l_257, l_258, l_260, l_261, l_262, l_364, l_680, l_700, l_701, l_840, l_999, l_1023, l_1024, l_9999, l_10000, l_1000000, lm]
  simp (disch := first | (with_reducible assumption) | omega | exact ⟨by omega, by omega⟩ | ((with_reducible first | apply Wf.wI | apply Wf.wL | apply Wf.fL | apply Wf.fI | apply Wf.fr); (repeat (with_reducible first | assumption | apply Wf.wI | apply Wf.wL | apply Wf.fL | apply Wf.fI | apply Wf.fr)))) only [ck_225, gI_225, gL_225, pI_225, pZ0_225, pZ1_225, pL_225, gR_225_1, gR_225_3, gR_225_4, gR_225_5, gR_225_6, gR_225_7, gR_225_8, gR_225_9, gR_225_10, gR_225_11, gR_225_12, gR_225_13, gR_225_14, gR_225_15, gR_225_16, gR_225_17, gR_225_18, gR_225_19, gR_225_20, gR_225_21, gR_225_35, gR_225_36, gR_225_38, gR_225_39, gR_225_40, gR_225_41, gR_225_43, gR_225_44, gR_225_45, gR_225_48, gR_225_49, gR_225_50, gR_225_51, gR_225_53, gR_225_54, gR_225_55, gR_225_56, gR_225_58, gR_225_59, gR_225_60, gR_225_61, gR_225_62, gR_225_63, gR_225_66, gR_225_67, bq_n, bd_s, mp_s, rz_0, rz_1, bI_rz, if_true, if_false, ite_true, ite_false, reduceIte, not_true, not_false, and_true, true_and, and_false, false_and, or_true, true_or, or_false, false_or, eq_self, aI_227, rd_C h, rd_S h, z_one (show nS D < 31 by omega)]
  by_cases q : x < nI 0
  · rw [if_pos q]
  · rw [if_neg q, if_pos (hx.resolve_left q)]
/-- a tree is followed from every root -/
theorem JS.or {τ : ah_H} {m r : Nat} {fa st : Nat → Option Nat} (h : MInv σ D) (hr : r < nC D) (hj : JS σ τ D m r fa st) (hc : JCl D m (nS D) fa) (ht : TrQ D m) : OrP D m r st ∧ ∀ c, c < nC D → ∃ d, fa c = some d ∧ d < nC D ∧ (itn (nx D st) d c = some r) ∧ (d = 0 ↔ c = r) := by
  have hall := (cnt_full _).mp ((hj.2.1.all h.t hc).mpr (ht.from hr))
  have hfa : ∀ c, c < nC D → ∃ d, fa c = some d := by
    intro c hx
    cases e : fa c with
    | none => exact absurd e (hall c hx)
    | some d => exact ⟨d, rfl⟩
  have key : ∀ d c, c < nC D → fa c = some d → itn (nx D st) d c = some r ∧ (d = 0 ↔ c = r) := by
    intro d
    induction d with
    | zero =>
      intro c hx hd
      by_cases q : c = r
      · exact ⟨by rw [q]; rfl, fun _ => q, fun _ => rfl⟩
      · obtain ⟨s, -, -, -, -, e, he, -⟩ := hj.2.1.2.2.1 c hx q 0 hd
        omega
    | succ d ih =>
      intro c hx hd
      by_cases q : c = r
      · rw [q, hj.2.1.1] at hd; cases hd
      · obtain ⟨s, b1, b2, b3, b4, e, he, b6⟩ := hj.2.1.2.2.1 c hx q _ hd
        obtain rfl : d = e := by omega
        refine ⟨?_, fun z => by omega, fun z => absurd z q⟩
        show (nx D st c).bind (itn (nx D st) d) = _
        have hnx : nx D st c = some (oth D s c) := by unfold nx; rw [b1]; rfl
        rw [hnx]
        exact (ih _ (h.t.qoth b2) b6).1
  refine ⟨⟨fun c hx hcr => ?_, hj.2.1.2.1, hr, fun c hx => ?_⟩, fun c hx => ?_⟩
  · obtain ⟨d, hd⟩ := hfa c hx
    obtain ⟨s, b1, b2, b3, b4, -⟩ := hj.2.1.2.2.1 c hx hcr d hd
    exact ⟨s, b1, b2, b3, b4⟩
  · obtain ⟨d, hd⟩ := hfa c hx
    exact ⟨d, (key d c hx hd).1⟩
  · obtain ⟨d, hd⟩ := hfa c hx
    have := hj.2.1.2.2.2.2.2 c d hd
    have := cnt_le fa (nC D)
    exact ⟨d, hd, by omega, key d c hx hd⟩
end
