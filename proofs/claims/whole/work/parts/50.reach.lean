/-! REACHING: what comes to a corner -/
section
variable {nx : Nat → Option Nat} {n : Nat}
theorem itn_short (hn : ∀ c k, c < n → nx c = some k → k < n) {o x : Nat} (ho : o < n) : ∀ j, itn nx j o = some x → ∃ j, j < n ∧ itn nx j o = some x := by
  intro j
  induction j using Nat.strongRecOn with
  | _ j ih =>
    intro h
    by_cases q : j < n
    · exact ⟨j, q, h⟩
    have hd : ∀ i, i ≤ j → ∃ y, itn nx i o = some y ∧ itn nx (j - i) y = some x := by
      intro i hi
      have h1 := h
      rw [show j = i + (j - i) by omega, itn_add] at h1
      cases e : itn nx i o with
      | none => rw [e] at h1; cases h1
      | some y => rw [e] at h1; exact ⟨y, rfl, h1⟩
    obtain ⟨i, i', hij, hi', he⟩ := php n (fun i => (itn nx i o).getD 0) (fun i hi => by
      obtain ⟨y, hy, -⟩ := hd i (by omega)
      show (itn nx i o).getD 0 < n
      rw [hy]
      exact itn_lt hn ho hy)
    obtain ⟨y, hy, -⟩ := hd i (by omega)
    obtain ⟨z, hz, hzc⟩ := hd i' (by omega)
    have he : (itn nx i o).getD 0 = (itn nx i' o).getD 0 := he
    rw [hy, hz] at he
    have he : y = z := he
    refine ih (i + (j - i')) (by omega) ?_
    rw [itn_add, hy, he]
    exact hzc
/-- it comes to x -/
def Rt (nx : Nat → Option Nat) (x o : Nat) : Prop := ∃ j, itn nx j o = some x
theorem Rt_n (hn : ∀ c k, c < n → nx c = some k → k < n) {o x : Nat} (ho : o < n) : Rt nx x o ↔ ∃ j, j ≤ n ∧ itn nx j o = some x := by
  constructor
  · rintro ⟨j, h⟩
    obtain ⟨j, h1, h2⟩ := itn_short hn ho j h
    exact ⟨j, by omega, h2⟩
  · rintro ⟨j, -, h⟩; exact ⟨j, h⟩
/-- a set of corners as it grows towards all that come to x -/
def Cl (nx : Nat → Option Nat) (n x s k m : Nat) : Prop := m < 2 ^ n ∧ (∀ o, m.testBit o = true → o < n ∧ Rt nx x o) ∧ (∀ o, o < n → (∃ j, j ≤ s ∧ itn nx j o = some x) → m.testBit o = true) ∧ ∀ o, o < k → (∃ j, j ≤ s + 1 ∧ itn nx j o = some x) → m.testBit o = true
theorem Cl_init {x : Nat} (hx : x < n) : Cl nx n x 0 0 (2 ^ x) := by
  refine ⟨pw_b hx, fun o ho => ?_, fun o _ ⟨j, hj, h⟩ => ?_, fun o ho => by omega⟩
  · rw [Nat.testBit_two_pow] at ho
    have : x = o := by simpa using ho
    subst this
    exact ⟨hx, 0, rfl⟩
  · obtain rfl : j = 0 := by omega
    have : o = x := Option.some.inj h
    rw [this, Nat.testBit_two_pow_self]
theorem Cl_round {x s m : Nat} (h : Cl nx n x s n m) : Cl nx n x (s + 1) 0 m := ⟨h.1, h.2.1, h.2.2.2, fun o ho => by omega⟩
theorem Cl_stay (hn : ∀ c k, c < n → nx c = some k → k < n) {x s k m : Nat} (h : Cl nx n x s k m) (hk : k < n) (hs : ∀ y, nx k = some y → ¬ m.testBit y = true) : Cl nx n x s (k + 1) m := by
  refine ⟨h.1, h.2.1, h.2.2.1, fun o ho hj => ?_⟩
  by_cases e : o = k
  · subst e
    obtain ⟨j, hj, hi⟩ := hj
    cases j with
    | zero => exact h.2.2.1 o hk ⟨0, by omega, hi⟩
    | succ j =>
      have hi : (nx o).bind (itn nx j) = some x := hi
      cases hy : nx o with
      | none => rw [hy] at hi; cases hi
      | some y =>
        rw [hy] at hi
        have hi : itn nx j y = some x := hi
        exact absurd (h.2.2.1 y (hn o y hk hy) ⟨j, by omega, hi⟩) (hs y hy)
  · exact h.2.2.2 o (by omega) hj
theorem Cl_add {x s k m y : Nat} (h : Cl nx n x s k m) (hk : k < n) (hy : nx k = some y) (hm : m.testBit y = true) : Cl nx n x s (k + 1) (m ||| 2 ^ k) := by
  refine ⟨or_b h.1 (pw_b hk), fun o ho => ?_, fun o ho hj => (tb_set m k o).mpr (Or.inl (h.2.2.1 o ho hj)), fun o ho hj => ?_⟩
  · rcases (tb_set m k o).mp ho with q | q
    · exact h.2.1 o q
    · subst q
      obtain ⟨-, j, hj⟩ := h.2.1 y hm
      exact ⟨hk, j + 1, by show (nx o).bind (itn nx j) = some x; rw [hy]; exact hj⟩
  · by_cases e : o = k
    · exact (tb_set m k o).mpr (Or.inr e)
    · exact (tb_set m k o).mpr (Or.inl (h.2.2.2 o (by omega) hj))
theorem Cl_end (hn : ∀ c k, c < n → nx c = some k → k < n) {x s m : Nat} (h : Cl nx n x s 0 m) (hs : n ≤ s + 1) (o : Nat) : m.testBit o = true ↔ o < n ∧ Rt nx x o := by
  constructor
  · exact h.2.1 o
  · rintro ⟨h1, j, h2⟩
    obtain ⟨j, h3, h4⟩ := itn_short hn h1 j h2
    exact h.2.2.1 o h1 ⟨j, by omega, h4⟩
end
def riv (D : DD) : Nat := ix (D 227 4)
def lev (D : DD) : Nat := ix (D 227 5)
theorem MT.rv {D : DD} (h : MT D) (q : D 227 4 ≠ mI 1) : D 227 4 = nI (riv D) ∧ riv D < nC D ∧ D 227 5 = nI (lev D) ∧ lev D ≤ 999 := by
  rcases h.qriv with q1 | ⟨⟨r, hr, e⟩, q2⟩
  · exact absurd q1.1 q
  · have b := h.qc7
    have e1 : riv D = r := by unfold riv; rw [e]; exact ix_nI (by omega)
    rw [e1]
    exact ⟨e, hr, q2.1, q2.2⟩
theorem riv_st {D : DD} (ht : MT D) (hn : MN D) (q : D 227 4 ≠ mI 1) : stD D (riv D) = none := by
  obtain ⟨e1, e2, -⟩ := ht.rv q
  cases hx : stD D (riv D) with
  | none => rfl
  | some s => exact absurd e1 (lb ht hn e2 hx).2.1
def jnd (D : DD) : Prop := D 227 4 ≠ mI 1 ∧ ∀ c, c < nC D → Rt (nx D (stD D)) (riv D) c
theorem stD_nxl {D : DD} (ht : MT D) (hn : MN D) : ∀ c k, c < nC D → nx D (stD D) c = some k → k < nC D := fun c _ hc hx => nx_lt ht (fun s hs => stD_b ht hn (by have := ht.qc7; omega) hs) hx
theorem nx_none {D : DD} {st : Nat → Option Nat} {c : Nat} : nx D st c = none ↔ st c = none := by
  unfold nx
  cases st c with
  | none => exact ⟨fun _ => rfl, fun _ => rfl⟩
  | some s => exact ⟨fun h => (by cases h), fun h => (by cases h)⟩
/-- in a net all of whose pipes come to the river all but the river have one -/
theorem jnd_laid {D : DD} (h : jnd D) {c : Nat} (hc : c < nC D) (hr : c ≠ riv D) : stD D c ≠ none := by
  obtain ⟨j, hj⟩ := h.2 c hc
  intro q
  cases j with
  | zero => exact hr (Option.some.inj hj)
  | succ j =>
    have hj : (nx D (stD D) c).bind _ = _ := hj
    rw [nx_none.mpr q] at hj
    cases hj
section
variable {σ : ah_H} {D : DD}
/-- following a corner for at most m steps -/
theorem itn_le_s {nx : Nat → Option Nat} {x y m : Nat} : (∃ j, j ≤ m + 1 ∧ itn nx j y = some x) ↔ y = x ∨ ∃ z, nx y = some z ∧ ∃ j, j ≤ m ∧ itn nx j z = some x := by
  constructor
  · rintro ⟨j, hj, h⟩
    cases j with
    | zero => exact Or.inl (Option.some.inj h)
    | succ j =>
      have h : (nx y).bind (itn nx j) = some x := h
      cases hy : nx y with
      | none => rw [hy] at h; cases h
      | some z => rw [hy] at h; exact Or.inr ⟨z, rfl, j, by omega, h⟩
  · rintro (rfl | ⟨z, hz, j, hj, h⟩)
    · exact ⟨0, by omega, rfl⟩
    · exact ⟨j + 1, by omega, by show (nx y).bind (itn nx j) = some x; rw [hz]; exact h⟩
theorem itn_le_0 {nx : Nat → Option Nat} {x y : Nat} : (∃ j, j ≤ 0 ∧ itn nx j y = some x) ↔ y = x := by
  constructor
  · rintro ⟨j, hj, h⟩
    obtain rfl : j = 0 := by omega
    exact Option.some.inj h
  · rintro rfl; exact ⟨0, by omega, rfl⟩
theorem m_ctr4 (h : MInv σ D) (hn : ah_I σ 225 42 = nI 0) (hr : D 227 4 ≠ mI 1) : ∀ m k fu y, k + m = nC D → m < fu → y < nC D → f_X12_comesToRiver_4 fu 225 (nI y) (nI k) σ = some (cI (∃ j, j ≤ m ∧ itn (nx D (stD D)) j y = some (riv D)), σ) := by
  have hw := h.w
  have b1 := h.bd
  have hst := h.st0 hn
  obtain ⟨e1, e2, -⟩ := h.t.rv hr
  have hrv := rd_riv h
  rw [e1] at hrv
  have last : ∀ y, y < nC D → f_X12_comesToRiver_44 225 (nI y) σ = some (cI (y = riv D), σ) := by
    intro y hy
    unfold f_X12_comesToRiver_44
    simp only [to_bq, l_0, l_1, l_2, l_3, l_4, l_5, l_6, l_7, l_8, l_9, l_10, l_11, l_12, l_13, l_14, l_15, l_16, l_17, l_18, l_19, l_20, l_21, l_22, l_23, l_24, l_25, l_26, l_27, l_28, l_29, l_30, l_31, l_32, l_40, l_41, l_42, l_43, l_44, l_45, l_46, l_47, l_48, l_49, l_50, l_51, l_52, l_53, l_54, l_55, l_56, l_57, l_58, l_59, l_60, l_61, l_62, l_63, l_64, l_72, l_97, l_99, l_100, l_104, l_120, l_122, l_128, l_140, l_255, l_256, l_257, l_258, l_260, l_261, l_262, l_364, l_680, l_700, l_701, l_840, l_999, l_1023, l_1024, l_9999, l_10000, l_1000000, lm]
    simp (disch := first | (with_reducible assumption) | omega | exact ⟨by omega, by omega⟩ | ((with_reducible first | apply Wf.wI | apply Wf.wL | apply Wf.fL | apply Wf.fI | apply Wf.fr); (repeat (with_reducible first | assumption | apply Wf.wI | apply Wf.wL | apply Wf.fL | apply Wf.fI | apply Wf.fr)))) only [ck_225, gI_225, gL_225, pI_225, pZ0_225, pZ1_225, pL_225, gR_225_1, gR_225_3, gR_225_4, gR_225_5, gR_225_6, gR_225_7, gR_225_8, gR_225_9, gR_225_10, gR_225_11, gR_225_12, gR_225_13, gR_225_14, gR_225_15, gR_225_16, gR_225_17, gR_225_18, gR_225_19, gR_225_20, gR_225_21, gR_225_35, gR_225_36, gR_225_38, gR_225_39, gR_225_40, gR_225_41, gR_225_43, gR_225_44, gR_225_45, gR_225_48, gR_225_49, gR_225_50, gR_225_51, gR_225_53, gR_225_54, gR_225_55, gR_225_56, gR_225_58, gR_225_59, gR_225_60, gR_225_61, gR_225_62, gR_225_63, gR_225_66, gR_225_67, bq_s, bd_s, mp_s, rz_0, rz_1, bI_rz, zadd, zmul, zsub, le_nI, lt_nI, eq_nI, neg_nI, gen_nI, neg_lt, neg_le, neg_lt', neg_le', nI_lt0, aI_227, hrv]
    by_cases q : y = riv D
    · rw [if_pos q, cI_t q]
    · rw [if_neg q, cI_f q]
  intro m
  induction m with
  | zero =>
    intro k fu y hk hf hy
    obtain ⟨fu, rfl⟩ : ∃ q, fu = q + 1 := ⟨fu - 1, by omega⟩
    show f_X12_comesToRiver_4_b _ _ _ _ _ = _
    unfold f_X12_comesToRiver_4_b
    simp only [to_bq, l_0, l_1, l_2, l_3, l_4, l_5, l_6, l_7, l_8, l_9, l_10, l_11, l_12, l_13, l_14, l_15, l_16, l_17, l_18, l_19, l_20, l_21, l_22, l_23, l_24, l_25, l_26, l_27, l_28, l_29, l_30, l_31, l_32, l_40, l_41, l_42, l_43, l_44, l_45, l_46, l_47, l_48, l_49, l_50, l_51, l_52, l_53, l_54, l_55, l_56, l_57, l_58, l_59, l_60, l_61, l_62, l_63, l_64, l_72, l_97, l_99, l_100, l_104, l_120, l_122, l_128, l_140, l_255, l_256, l_257, l_258, l_260, l_261, l_262, l_364, l_680, l_700, l_701, l_840, l_999, l_1023, l_1024, l_9999, l_10000, l_1000000, lm]
    simp (disch := first | (with_reducible assumption) | omega | exact ⟨by omega, by omega⟩ | ((with_reducible first | apply Wf.wI | apply Wf.wL | apply Wf.fL | apply Wf.fI | apply Wf.fr); (repeat (with_reducible first | assumption | apply Wf.wI | apply Wf.wL | apply Wf.fL | apply Wf.fI | apply Wf.fr)))) only [ck_225, gI_225, gL_225, pI_225, pZ0_225, pZ1_225, pL_225, gR_225_1, gR_225_3, gR_225_4, gR_225_5, gR_225_6, gR_225_7, gR_225_8, gR_225_9, gR_225_10, gR_225_11, gR_225_12, gR_225_13, gR_225_14, gR_225_15, gR_225_16, gR_225_17, gR_225_18, gR_225_19, gR_225_20, gR_225_21, gR_225_35, gR_225_36, gR_225_38, gR_225_39, gR_225_40, gR_225_41, gR_225_43, gR_225_44, gR_225_45, gR_225_48, gR_225_49, gR_225_50, gR_225_51, gR_225_53, gR_225_54, gR_225_55, gR_225_56, gR_225_58, gR_225_59, gR_225_60, gR_225_61, gR_225_62, gR_225_63, gR_225_66, gR_225_67, bq_s, bd_s, mp_s, rz_0, rz_1, bI_rz, zadd, zmul, zsub, le_nI, lt_nI, eq_nI, neg_nI, gen_nI, neg_lt, neg_le, neg_lt', neg_le', nI_lt0, if_true, if_false, ite_true, ite_false, reduceIte, not_true, not_false, and_true, true_and, and_false, false_and, or_true, true_or, or_false, false_or, eq_self, aI_227, rd_C h, show (nC D ≤ k) = True from eq_true (by omega)]
    rw [last y hy, cI_eq itn_le_0]
  | succ m ih =>
    intro k fu y hk hf hy
    obtain ⟨fu, rfl⟩ : ∃ q, fu = q + 1 := ⟨fu - 1, by omega⟩
    show f_X12_comesToRiver_4_b _ _ _ _ _ = _
    unfold f_X12_comesToRiver_4_b
    simp only [to_bq, l_0, l_1, l_2, l_3, l_4, l_5, l_6, l_7, l_8, l_9, l_10, l_11, l_12, l_13, l_14, l_15, l_16, l_17, l_18, l_19, l_20, l_21, l_22, l_23, l_24, l_25, l_26, l_27, l_28, l_29, l_30, l_31, l_32, l_40, l_41, l_42, l_43, l_44, l_45, l_46, l_47, l_48, l_49, l_50, l_51, l_52, l_53, l_54, l_55, l_56, l_57, l_58, l_59, l_60, l_61, l_62, l_63, l_64, l_72, l_97, l_99, l_100, l_104, l_120, l_122, l_128, l_140, l_255, l_256, l_257, l_258, l_260, l_261, l_262, l_364, l_680, l_700, l_701, l_840, l_999, l_1023, l_1024, l_9999, l_10000, l_1000000, lm]
    simp (disch := first | (with_reducible assumption) | omega | exact ⟨by omega, by omega⟩ | ((with_reducible first | apply Wf.wI | apply Wf.wL | apply Wf.fL | apply Wf.fI | apply Wf.fr); (repeat (with_reducible first | assumption | apply Wf.wI | apply Wf.wL | apply Wf.fL | apply Wf.fI | apply Wf.fr)))) only [ck_225, gI_225, gL_225, pI_225, pZ0_225, pZ1_225, pL_225, gR_225_1, gR_225_3, gR_225_4, gR_225_5, gR_225_6, gR_225_7, gR_225_8, gR_225_9, gR_225_10, gR_225_11, gR_225_12, gR_225_13, gR_225_14, gR_225_15, gR_225_16, gR_225_17, gR_225_18, gR_225_19, gR_225_20, gR_225_21, gR_225_35, gR_225_36, gR_225_38, gR_225_39, gR_225_40, gR_225_41, gR_225_43, gR_225_44, gR_225_45, gR_225_48, gR_225_49, gR_225_50, gR_225_51, gR_225_53, gR_225_54, gR_225_55, gR_225_56, gR_225_58, gR_225_59, gR_225_60, gR_225_61, gR_225_62, gR_225_63, gR_225_66, gR_225_67, bq_s, bd_s, mp_s, rz_0, rz_1, bI_rz, zadd, zmul, zsub, le_nI, lt_nI, eq_nI, neg_nI, gen_nI, neg_lt, neg_le, neg_lt', neg_le', nI_lt0, if_true, if_false, ite_true, ite_false, reduceIte, not_true, not_false, and_true, true_and, and_false, false_and, or_true, true_or, or_false, false_or, eq_self, aI_227, rd_C h, hrv, show (nC D ≤ k) = False from eq_false (by omega), m_isLaid h hst hy, bI_0, ite_n]
    rw [cI_eq itn_le_s, last y hy]
    by_cases q : y = riv D
    · rw [if_pos q, cI_t q, cI_t (Or.inl q)]
    rw [if_neg q]
    cases hx : stD D y with
    | none =>
      rw [if_pos rfl, cI_f q, cI_f]
      rintro (z | ⟨z, hz, -⟩)
      · exact q z
      · rw [nx_none.mpr hx] at hz; cases hz
    | some s =>
      rw [if_neg (by intro z; cases z), m_to h hst hy hx, bq_s]
      have hs := (hst.2.2 y hy).2 s hx
      have hnx : nx D (stD D) y = some (oth D s y) := by unfold nx; rw [hx]; rfl
      show f_X12_comesToRiver_4 fu 225 (nI (oth D s y)) (nI k + nI 1) σ = _
      rw [zadd, ih (k + 1) fu _ (by omega) (by omega) (h.t.qoth hs)]
      congr 2
      refine cI_eq ⟨fun z => Or.inr ⟨_, hnx, z⟩, ?_⟩
      rintro (z | ⟨z, hz, hj⟩)
      · exact absurd z q
      · rw [hnx] at hz; cases hz; exact hj
theorem m_comesToRiver (h : MInv σ D) (hn : ah_I σ 225 42 = nI 0) (hr : D 227 4 ≠ mI 1) {y : Nat} (hy : y < nC D) : f_X12_comesToRiver 225 (nI y) σ = some (cI (Rt (nx D (stD D)) (riv D) y), σ) := by
  have b1 := h.bd
  unfold f_X12_comesToRiver f_X12_comesToRiver_0
  rw [ck_225 h.w, l_0, m_ctr4 h hn hr (nC D) 0 5000 y (by omega) (by omega) hy, cI_eq (Rt_n (stD_nxl h.t h.n) hy).symm]
theorem m_joined14 (h : MInv σ D) (hn : ah_I σ 225 42 = nI 0) (hr : D 227 4 ≠ mI 1) : ∀ m k fu, k + m = nC D → m < fu → f_X12_isJoined_14 fu 225 (nI k) σ = some (cI (∀ c, k ≤ c → c < nC D → Rt (nx D (stD D)) (riv D) c), σ) := by
  have hw := h.w
  have b1 := h.bd
  intro m
  induction m with
  | zero =>
    intro k fu hk hf
    obtain ⟨fu, rfl⟩ : ∃ q, fu = q + 1 := ⟨fu - 1, by omega⟩
    show f_X12_isJoined_14_b _ _ _ _ = _
    unfold f_X12_isJoined_14_b
    simp only [to_bq, l_0, l_1, l_2, l_3, l_4, l_5, l_6, l_7, l_8, l_9, l_10, l_11, l_12, l_13, l_14, l_15, l_16, l_17, l_18, l_19, l_20, l_21, l_22, l_23, l_24, l_25, l_26, l_27, l_28, l_29, l_30, l_31, l_32, l_40, l_41, l_42, l_43, l_44, l_45, l_46, l_47, l_48, l_49, l_50, l_51, l_52, l_53, l_54, l_55, l_56, l_57, l_58, l_59, l_60, l_61, l_62, l_63, l_64, l_72, l_97, l_99, l_100, l_104, l_120, l_122, l_128, l_140, l_255, l_256, l_257, l_258, l_260, l_261, l_262, l_364, l_680, l_700, l_701, l_840, l_999, l_1023, l_1024, l_9999, l_10000, l_1000000, lm]
    simp (disch := first | (with_reducible assumption) | omega | exact ⟨by omega, by omega⟩ | ((with_reducible first | apply Wf.wI | apply Wf.wL | apply Wf.fL | apply Wf.fI | apply Wf.fr); (repeat (with_reducible first | assumption | apply Wf.wI | apply Wf.wL | apply Wf.fL | apply Wf.fI | apply Wf.fr)))) only [ck_225, gI_225, gL_225, pI_225, pZ0_225, pZ1_225, pL_225, gR_225_1, gR_225_3, gR_225_4, gR_225_5, gR_225_6, gR_225_7, gR_225_8, gR_225_9, gR_225_10, gR_225_11, gR_225_12, gR_225_13, gR_225_14, gR_225_15, gR_225_16, gR_225_17, gR_225_18, gR_225_19, gR_225_20, gR_225_21, gR_225_35, gR_225_36, gR_225_38, gR_225_39, gR_225_40, gR_225_41, gR_225_43, gR_225_44, gR_225_45, gR_225_48, gR_225_49, gR_225_50, gR_225_51, gR_225_53, gR_225_54, gR_225_55, gR_225_56, gR_225_58, gR_225_59, gR_225_60, gR_225_61, gR_225_62, gR_225_63, gR_225_66, gR_225_67, bq_s, bd_s, mp_s, rz_0, rz_1, bI_rz, zadd, zmul, zsub, le_nI, lt_nI, eq_nI, neg_nI, gen_nI, neg_lt, neg_le, neg_lt', neg_le', nI_lt0, if_true, if_false, ite_true, ite_false, reduceIte, not_true, not_false, and_true, true_and, and_false, false_and, or_true, true_or, or_false, false_or, eq_self, aI_227, rd_C h, show (nC D ≤ k) = True from eq_true (by omega)]
    rw [cI_t (fun c _ _ => by omega)]
  | succ m ih =>
    intro k fu hk hf
    obtain ⟨fu, rfl⟩ : ∃ q, fu = q + 1 := ⟨fu - 1, by omega⟩
    have hk' : k < nC D := by omega
    show f_X12_isJoined_14_b _ _ _ _ = _
    unfold f_X12_isJoined_14_b
    simp only [to_bq, l_0, l_1, l_2, l_3, l_4, l_5, l_6, l_7, l_8, l_9, l_10, l_11, l_12, l_13, l_14, l_15, l_16, l_17, l_18, l_19, l_20, l_21, l_22, l_23, l_24, l_25, l_26, l_27, l_28, l_29, l_30, l_31, l_32, l_40, l_41, l_42, l_43, l_44, l_45, l_46, l_47, l_48, l_49, l_50, l_51, l_52, l_53, l_54, l_55, l_56, l_57, l_58, l_59, l_60, l_61, l_62, l_63, l_64, l_72, l_97, l_99, l_100, l_104, l_120, l_122, l_128, l_140, l_255, l_256, l_257, l_258, l_260, l_261, l_262, l_364, l_680, l_700, l_701, l_840, l_999, l_1023, l_1024, l_9999, l_10000, l_1000000, lm]
    simp (disch := first | (with_reducible assumption) | omega | exact ⟨by omega, by omega⟩ | ((with_reducible first | apply Wf.wI | apply Wf.wL | apply Wf.fL | apply Wf.fI | apply Wf.fr); (repeat (with_reducible first | assumption | apply Wf.wI | apply Wf.wL | apply Wf.fL | apply Wf.fI | apply Wf.fr)))) only [ck_225, gI_225, gL_225, pI_225, pZ0_225, pZ1_225, pL_225, gR_225_1, gR_225_3, gR_225_4, gR_225_5, gR_225_6, gR_225_7, gR_225_8, gR_225_9, gR_225_10, gR_225_11, gR_225_12, gR_225_13, gR_225_14, gR_225_15, gR_225_16, gR_225_17, gR_225_18, gR_225_19, gR_225_20, gR_225_21, gR_225_35, gR_225_36, gR_225_38, gR_225_39, gR_225_40, gR_225_41, gR_225_43, gR_225_44, gR_225_45, gR_225_48, gR_225_49, gR_225_50, gR_225_51, gR_225_53, gR_225_54, gR_225_55, gR_225_56, gR_225_58, gR_225_59, gR_225_60, gR_225_61, gR_225_62, gR_225_63, gR_225_66, gR_225_67, bq_s, bd_s, mp_s, rz_0, rz_1, bI_rz, zadd, zmul, zsub, le_nI, lt_nI, eq_nI, neg_nI, gen_nI, neg_lt, neg_le, neg_lt', neg_le', nI_lt0, if_true, if_false, ite_true, ite_false, reduceIte, not_true, not_false, and_true, true_and, and_false, false_and, or_true, true_or, or_false, false_or, eq_self, aI_227, rd_C h, show (nC D ≤ k) = False from eq_false (by omega), m_comesToRiver h hn hr hk']
    by_cases q : Rt (nx D (stD D)) (riv D) k
    · rw [if_neg (by rw [cI_0]; exact fun z => z q), ih (k + 1) fu (by omega) (by omega)]
      congr 2
      refine cI_eq ⟨fun z c h1 h2 => ?_, fun z c h1 h2 => z c (by omega) h2⟩
      by_cases e : c = k
      · rw [e]; exact q
      · exact z c (by omega) h2
    · rw [if_pos (by rw [cI_0]; exact q), cI_f (fun z => q (z k (Nat.le_refl _) hk'))]
theorem m_isJoined (h : MInv σ D) (hn : ah_I σ 225 42 = nI 0) : f_X12_isJoined 225 σ = some (cI (jnd D), σ) := by
  have hw := h.w
  have b1 := h.bd
  unfold f_X12_isJoined f_X12_isJoined_0
  simp only [to_bq, l_0, l_1, l_2, l_3, l_4, l_5, l_6, l_7, l_8, l_9, l_10, l_11, l_12, l_13, l_14, l_15, l_16, l_17, l_18, l_19, l_20, l_21, l_22, l_23, l_24, l_25, l_26, l_27, l_28, l_29, l_30, l_31, l_32, l_40, l_41, l_42, l_43, l_44, l_45, l_46, l_47, l_48, l_49, l_50, l_51, l_52, l_53, l_54, l_55, l_56, l_57, l_58, l_59, l_60, l_61, l_62, l_63, l_64, l_72, l_97, l_99, l_100, l_104, l_120, l_122, l_128, l_140, l_255, l_256, l_257, l_258, l_260, l_261, l_262, l_364, l_680, l_700, l_701, l_840, l_999, l_1023, l_1024, l_9999, l_10000, l_1000000, lm]
  simp (disch := first | (with_reducible assumption) | omega | exact ⟨by omega, by omega⟩ | ((with_reducible first | apply Wf.wI | apply Wf.wL | apply Wf.fL | apply Wf.fI | apply Wf.fr); (repeat (with_reducible first | assumption | apply Wf.wI | apply Wf.wL | apply Wf.fL | apply Wf.fI | apply Wf.fr)))) only [ck_225, gI_225, gL_225, pI_225, pZ0_225, pZ1_225, pL_225, gR_225_1, gR_225_3, gR_225_4, gR_225_5, gR_225_6, gR_225_7, gR_225_8, gR_225_9, gR_225_10, gR_225_11, gR_225_12, gR_225_13, gR_225_14, gR_225_15, gR_225_16, gR_225_17, gR_225_18, gR_225_19, gR_225_20, gR_225_21, gR_225_35, gR_225_36, gR_225_38, gR_225_39, gR_225_40, gR_225_41, gR_225_43, gR_225_44, gR_225_45, gR_225_48, gR_225_49, gR_225_50, gR_225_51, gR_225_53, gR_225_54, gR_225_55, gR_225_56, gR_225_58, gR_225_59, gR_225_60, gR_225_61, gR_225_62, gR_225_63, gR_225_66, gR_225_67, bq_s, bd_s, mp_s, rz_0, rz_1, bI_rz, zadd, zmul, zsub, le_nI, lt_nI, eq_nI, neg_nI, gen_nI, neg_lt, neg_le, neg_lt', neg_le', nI_lt0, lm, aI_227, rd_riv h]
  by_cases q : D 227 4 = mI 1
  · rw [if_pos q, cI_f (fun z => z.1 q)]
  · rw [if_neg q, m_joined14 h hn q (nC D) 0 5000 (by omega) (by omega)]
    congr 2
    exact cI_eq ⟨fun z => ⟨q, fun c hc => z c (by omega) hc⟩, fun z c _ hc => z.2 c hc⟩
/-- the first of m from k on -/
noncomputable def fp (P : Nat → Prop) : Nat → Nat → Option Nat
  | _, 0 => none
  | k, m + 1 => cif (P k) (some k) (fp P (k + 1) m)
theorem fp_in {P : Nat → Prop} : ∀ m k c, fp P k m = some c → P c ∧ k ≤ c ∧ c < k + m := by
  intro m
  induction m with
  | zero => intro k c h; cases h
  | succ m ih =>
    intro k c h
    have h : cif (P k) (some k) (fp P (k + 1) m) = some c := h
    by_cases q : P k
    · rw [cif_t q] at h; cases h; exact ⟨q, Nat.le_refl _, by omega⟩
    · rw [cif_f q] at h
      obtain ⟨h1, h2, h3⟩ := ih (k + 1) c h
      exact ⟨h1, by omega, by omega⟩
noncomputable def brkc (D : DD) (c : Nat) : Nat := match stD D c with
  | none => 0
  | some s => brk D c s
def bel (D : DD) (c : Nat) : Prop := nx D (stD D) c = some (riv D) ∧ (hgt D (riv D) : Int) - bD D c < (lev D : Int)
/-- the law that is broken, and where -/
noncomputable def jdl (D : DD) : Int32 := cif (jnd D) (match fp (fun c => brkc D c ≠ 0) 0 (nC D) with
  | some c => nI (brkc D c)
  | none => match fp (bel D) 0 (nC D) with
    | some _ => nI 8
    | none => nI 0) (nI 7)
noncomputable def jdc (D : DD) : Int32 := cif (jnd D) (match fp (fun c => brkc D c ≠ 0) 0 (nC D) with
  | some c => nI c
  | none => sv (fp (bel D) 0 (nC D))) (mI 1)
noncomputable def sJudged (D : DD) (w : Int32) : Int32 := if w < nI 0 then mI 1 else if w ≤ nI 1 then (if w = nI 0 then jdl D else jdc D) else mI 1
noncomputable def jd8 (D : DD) (w : Int32) (o : Option Nat) : Int32 := match o with
  | some c => if w = nI 0 then nI 8 else nI c
  | none => if w = nI 0 then nI 0 else mI 1
theorem jle_n {a b c : Nat} (ha : a < 100000) (hb : b < 100000) (hc : c < 100000) : (nI a ≤ nI b - nI c) = ((a : Int) ≤ (b : Int) - c) := by
  rw [jI_n, jI_n, jI_n, jsub, jle ⟨by omega, by omega⟩ ⟨by omega, by omega⟩]
theorem m_jd96 (h0 : MInv σ D) (hn0 : ah_I σ 225 42 = nI 0) (hj : jnd D) (w : Int32) : ∀ m k fu τ, k + m = nC D → m < fu → Fr Xa σ τ → Ok (f_X12_judged_96 fu 225 w (nI k) τ) (fun r => r.1 = jd8 D w (fp (bel D) k m) ∧ Fr Xa σ r.2) := by
  have b1 := h0.bd
  obtain ⟨e1, e2, e3, e4⟩ := h0.t.rv hj.1
  intro m
  induction m with
  | zero =>
    intro k fu τ hk hf hfr
    obtain ⟨fu, rfl⟩ : ∃ q, fu = q + 1 := ⟨fu - 1, by omega⟩
    have h := h0.q (hfr.mono Xa_q)
    have hw := h.w
    show Ok (f_X12_judged_96_b _ _ _ _ _) _
    unfold f_X12_judged_96_b f_X12_judged_163
    simp only [to_bq, l_0, l_1, l_2, l_3, l_4, l_5, l_6, l_7, l_8, l_9, l_10, l_11, l_12, l_13, l_14, l_15, l_16, l_17, l_18, l_19, l_20, l_21, l_22, l_23, l_24, l_25, l_26, l_27, l_28, l_29, l_30, l_31, l_32, l_40, l_41, l_42, l_43, l_44, l_45, l_46, l_47, l_48, l_49, l_50, l_51, l_52, l_53, l_54, l_55, l_56, l_57, l_58, l_59, l_60, l_61, l_62, l_63, l_64, l_72, l_97, l_99, l_100, l_104, l_120, l_122, l_128, l_140, l_255, l_256, l_257, l_258, l_260, l_261, l_262, l_364, l_680, l_700, l_701, l_840, l_999, l_1023, l_1024, l_9999, l_10000, l_1000000, lm]
    simp (disch := first | (with_reducible assumption) | omega | exact ⟨by omega, by omega⟩ | ((with_reducible first | apply Wf.wI | apply Wf.wL | apply Wf.fL | apply Wf.fI | apply Wf.fr); (repeat (with_reducible first | assumption | apply Wf.wI | apply Wf.wL | apply Wf.fL | apply Wf.fI | apply Wf.fr)))) only [ck_225, gI_225, gL_225, pI_225, pZ0_225, pZ1_225, pL_225, gR_225_1, gR_225_3, gR_225_4, gR_225_5, gR_225_6, gR_225_7, gR_225_8, gR_225_9, gR_225_10, gR_225_11, gR_225_12, gR_225_13, gR_225_14, gR_225_15, gR_225_16, gR_225_17, gR_225_18, gR_225_19, gR_225_20, gR_225_21, gR_225_35, gR_225_36, gR_225_38, gR_225_39, gR_225_40, gR_225_41, gR_225_43, gR_225_44, gR_225_45, gR_225_48, gR_225_49, gR_225_50, gR_225_51, gR_225_53, gR_225_54, gR_225_55, gR_225_56, gR_225_58, gR_225_59, gR_225_60, gR_225_61, gR_225_62, gR_225_63, gR_225_66, gR_225_67, bq_s, bd_s, mp_s, rz_0, rz_1, bI_rz, zadd, zmul, zsub, le_nI, lt_nI, eq_nI, neg_nI, gen_nI, neg_lt, neg_le, neg_lt', neg_le', nI_lt0, if_true, if_false, ite_true, ite_false, reduceIte, not_true, not_false, and_true, true_and, and_false, false_and, or_true, true_or, or_false, false_or, eq_self, aI_227, rd_C h, lm, show (nC D ≤ k) = True from eq_true (by omega), iteS]
    exact ⟨_, rfl, rfl, hfr⟩
  | succ m ih =>
    intro k fu τ hk hf hfr
    obtain ⟨fu, rfl⟩ : ∃ q, fu = q + 1 := ⟨fu - 1, by omega⟩
    have h := h0.q (hfr.mono Xa_q)
    have hw := h.w
    have hk' : k < nC D := by omega
    have hn : ah_I τ 225 42 = nI 0 := (hfr.I (by unfold Xa; omega)).trans hn0
    have hrv := rd_riv h
    rw [e1] at hrv
    have hlv := rd_lev h
    rw [e3] at hlv
    have hh := h.t.qhgt9 e2
    have ef : fp (bel D) k (m + 1) = cif (bel D k) (some k) (fp (bel D) (k + 1) m) := rfl
    show Ok (f_X12_judged_96_b _ _ _ _ _) _
    unfold f_X12_judged_96_b f_X12_judged_157 f_X12_judged_146
    simp only [to_bq, l_0, l_1, l_2, l_3, l_4, l_5, l_6, l_7, l_8, l_9, l_10, l_11, l_12, l_13, l_14, l_15, l_16, l_17, l_18, l_19, l_20, l_21, l_22, l_23, l_24, l_25, l_26, l_27, l_28, l_29, l_30, l_31, l_32, l_40, l_41, l_42, l_43, l_44, l_45, l_46, l_47, l_48, l_49, l_50, l_51, l_52, l_53, l_54, l_55, l_56, l_57, l_58, l_59, l_60, l_61, l_62, l_63, l_64, l_72, l_97, l_99, l_100, l_104, l_120, l_122, l_128, l_140, l_255, l_256, l_257, l_258, l_260, l_261, l_262, l_364, l_680, l_700, l_701, l_840, l_999, l_1023, l_1024, l_9999, l_10000, l_1000000, lm]
    simp (disch := first | (with_reducible assumption) | omega | exact ⟨by omega, by omega⟩ | ((with_reducible first | apply Wf.wI | apply Wf.wL | apply Wf.fL | apply Wf.fI | apply Wf.fr); (repeat (with_reducible first | assumption | apply Wf.wI | apply Wf.wL | apply Wf.fL | apply Wf.fI | apply Wf.fr)))) only [ck_225, gI_225, gL_225, pI_225, pZ0_225, pZ1_225, pL_225, gR_225_1, gR_225_3, gR_225_4, gR_225_5, gR_225_6, gR_225_7, gR_225_8, gR_225_9, gR_225_10, gR_225_11, gR_225_12, gR_225_13, gR_225_14, gR_225_15, gR_225_16, gR_225_17, gR_225_18, gR_225_19, gR_225_20, gR_225_21, gR_225_35, gR_225_36, gR_225_38, gR_225_39, gR_225_40, gR_225_41, gR_225_43, gR_225_44, gR_225_45, gR_225_48, gR_225_49, gR_225_50, gR_225_51, gR_225_53, gR_225_54, gR_225_55, gR_225_56, gR_225_58, gR_225_59, gR_225_60, gR_225_61, gR_225_62, gR_225_63, gR_225_66, gR_225_67, bq_s, bd_s, mp_s, rz_0, rz_1, bI_rz, zadd, zmul, zsub, le_nI, lt_nI, eq_nI, neg_nI, gen_nI, neg_lt, neg_le, neg_lt', neg_le', nI_lt0, if_true, if_false, ite_true, ite_false, reduceIte, not_true, not_false, and_true, true_and, and_false, false_and, or_true, true_or, or_false, false_or, eq_self, aI_227, rd_C h, hrv, show (nC D ≤ k) = False from eq_false (by omega), m_runsTo h (h.st0 hn) hk' e2, bI_0, ite_n]
    by_cases q : nx D (stD D) k = some (riv D)
    · rw [if_pos q]
      obtain ⟨s', hs', -⟩ := nx_st q
      have hb12 := (h.lb hk' hs').2.2.2.2.2.1
      simp (disch := first | (with_reducible assumption) | omega | exact ⟨by omega, by omega⟩ | ((with_reducible first | apply Wf.wI | apply Wf.wL | apply Wf.fL | apply Wf.fI | apply Wf.fr); (repeat (with_reducible first | assumption | apply Wf.wI | apply Wf.wL | apply Wf.fL | apply Wf.fI | apply Wf.fr)))) only [ck_225, gI_225, gL_225, pI_225, pZ0_225, pZ1_225, pL_225, gR_225_1, gR_225_3, gR_225_4, gR_225_5, gR_225_6, gR_225_7, gR_225_8, gR_225_9, gR_225_10, gR_225_11, gR_225_12, gR_225_13, gR_225_14, gR_225_15, gR_225_16, gR_225_17, gR_225_18, gR_225_19, gR_225_20, gR_225_21, gR_225_35, gR_225_36, gR_225_38, gR_225_39, gR_225_40, gR_225_41, gR_225_43, gR_225_44, gR_225_45, gR_225_48, gR_225_49, gR_225_50, gR_225_51, gR_225_53, gR_225_54, gR_225_55, gR_225_56, gR_225_58, gR_225_59, gR_225_60, gR_225_61, gR_225_62, gR_225_63, gR_225_66, gR_225_67, bq_s, bd_s, mp_s, rz_0, rz_1, bI_rz, zadd, zmul, zsub, le_nI, lt_nI, eq_nI, neg_nI, gen_nI, neg_lt, neg_le, neg_lt', neg_le', nI_lt0, aI_227, aI_229, hrv, hlv, rd_hgt h, m_bO h hn hk' hs', jle_n, iteS]
      by_cases q2 : (lev D : Int) ≤ (hgt D (riv D) : Int) - bD D k
      · rw [if_pos q2]
        rw [cif_f (fun z => by have := z.2; omega)] at ef
        rw [ef]
        exact ih (k + 1) fu τ (by omega) (by omega) hfr
      · rw [if_neg q2]
        rw [cif_t ⟨q, by omega⟩] at ef
        rw [ef]
        exact ⟨_, rfl, rfl, hfr⟩
    · rw [if_neg q]
      rw [cif_f (fun z => q z.1)] at ef
      rw [ef]
      exact ih (k + 1) fu τ (by omega) (by omega) hfr
theorem brk_b (D : DD) (c s : Nat) : brk D c s ≤ 6 := by
  unfold brk
  split
  · omega
  split
  · omega
  split
  · split
    · refine cif_le (by omega) ?_
      split
      · split <;> omega
      · omega
    · omega
  · omega
theorem m_jd46 (h0 : MInv σ D) (hn0 : ah_I σ 225 42 = nI 0) (hF0 : FlR σ D (stD D) plain) (hj : jnd D) (w : Int32) : ∀ m k fu τ, k + m = nC D → m < fu → Fr Xa σ τ → Ok (f_X12_judged_46 fu 225 w (nI k) τ) (fun r => r.1 = (match fp (fun c => brkc D c ≠ 0) k m with
    | some c => if w = nI 0 then nI (brkc D c) else nI c
    | none => jd8 D w (fp (bel D) 0 (nC D))) ∧ Fr Xa σ r.2) := by
  have b1 := h0.bd
  obtain ⟨e1, e2, e3, e4⟩ := h0.t.rv hj.1
  intro m
  induction m with
  | zero =>
    intro k fu τ hk hf hfr
    obtain ⟨fu, rfl⟩ : ∃ q, fu = q + 1 := ⟨fu - 1, by omega⟩
    have h := h0.q (hfr.mono Xa_q)
    have hw := h.w
    have hn : ah_I τ 225 42 = nI 0 := (hfr.I (by unfold Xa; omega)).trans hn0
    show Ok (f_X12_judged_46_b _ _ _ _ _) _
    unfold f_X12_judged_46_b f_X12_judged_94
    simp only [to_bq, l_0, l_1, l_2, l_3, l_4, l_5, l_6, l_7, l_8, l_9, l_10, l_11, l_12, l_13, l_14, l_15, l_16, l_17, l_18, l_19, l_20, l_21, l_22, l_23, l_24, l_25, l_26, l_27, l_28, l_29, l_30, l_31, l_32, l_40, l_41, l_42, l_43, l_44, l_45, l_46, l_47, l_48, l_49, l_50, l_51, l_52, l_53, l_54, l_55, l_56, l_57, l_58, l_59, l_60, l_61, l_62, l_63, l_64, l_72, l_97, l_99, l_100, l_104, l_120, l_122, l_128, l_140, l_255, l_256, l_257, l_258, l_260, l_261, l_262, l_364, l_680, l_700, l_701, l_840, l_999, l_1023, l_1024, l_9999, l_10000, l_1000000, lm]
    simp (disch := first | (with_reducible assumption) | omega | exact ⟨by omega, by omega⟩ | ((with_reducible first | apply Wf.wI | apply Wf.wL | apply Wf.fL | apply Wf.fI | apply Wf.fr); (repeat (with_reducible first | assumption | apply Wf.wI | apply Wf.wL | apply Wf.fL | apply Wf.fI | apply Wf.fr)))) only [ck_225, gI_225, gL_225, pI_225, pZ0_225, pZ1_225, pL_225, gR_225_1, gR_225_3, gR_225_4, gR_225_5, gR_225_6, gR_225_7, gR_225_8, gR_225_9, gR_225_10, gR_225_11, gR_225_12, gR_225_13, gR_225_14, gR_225_15, gR_225_16, gR_225_17, gR_225_18, gR_225_19, gR_225_20, gR_225_21, gR_225_35, gR_225_36, gR_225_38, gR_225_39, gR_225_40, gR_225_41, gR_225_43, gR_225_44, gR_225_45, gR_225_48, gR_225_49, gR_225_50, gR_225_51, gR_225_53, gR_225_54, gR_225_55, gR_225_56, gR_225_58, gR_225_59, gR_225_60, gR_225_61, gR_225_62, gR_225_63, gR_225_66, gR_225_67, bq_s, bd_s, mp_s, rz_0, rz_1, bI_rz, zadd, zmul, zsub, le_nI, lt_nI, eq_nI, neg_nI, gen_nI, neg_lt, neg_le, neg_lt', neg_le', nI_lt0, if_true, if_false, ite_true, ite_false, reduceIte, not_true, not_false, and_true, true_and, and_false, false_and, or_true, true_or, or_false, false_or, eq_self, aI_227, rd_C h, show (nC D ≤ k) = True from eq_true (by omega)]
    exact (m_jd96 h hn hj w (nC D) 0 5000 τ (by omega) (by omega) Fr.rfl).mono (fun r q => ⟨q.1, hfr.trans q.2⟩)
  | succ m ih =>
    intro k fu τ hk hf hfr
    obtain ⟨fu, rfl⟩ : ∃ q, fu = q + 1 := ⟨fu - 1, by omega⟩
    have h := h0.q (hfr.mono Xa_q)
    have hw := h.w
    have hk' : k < nC D := by omega
    have hn : ah_I τ 225 42 = nI 0 := (hfr.I (by unfold Xa; omega)).trans hn0
    have hF := hF0.xa hfr
    have hrv := rd_riv h
    rw [e1] at hrv
    have ef : fp (fun c => brkc D c ≠ 0) k (m + 1) = cif (brkc D k ≠ 0) (some k) (fp (fun c => brkc D c ≠ 0) (k + 1) m) := rfl
    show Ok (f_X12_judged_46_b _ _ _ _ _) _
    unfold f_X12_judged_46_b f_X12_judged_88 f_X12_judged_74
    simp only [to_bq, l_0, l_1, l_2, l_3, l_4, l_5, l_6, l_7, l_8, l_9, l_10, l_11, l_12, l_13, l_14, l_15, l_16, l_17, l_18, l_19, l_20, l_21, l_22, l_23, l_24, l_25, l_26, l_27, l_28, l_29, l_30, l_31, l_32, l_40, l_41, l_42, l_43, l_44, l_45, l_46, l_47, l_48, l_49, l_50, l_51, l_52, l_53, l_54, l_55, l_56, l_57, l_58, l_59, l_60, l_61, l_62, l_63, l_64, l_72, l_97, l_99, l_100, l_104, l_120, l_122, l_128, l_140, l_255, l_256, l_257, l_258, l_260, l_261, l_262, l_364, l_680, l_700, l_701, l_840, l_999, l_1023, l_1024, l_9999, l_10000, l_1000000, lm]
    simp (disch := first | (with_reducible assumption) | omega | exact ⟨by omega, by omega⟩ | ((with_reducible first | apply Wf.wI | apply Wf.wL | apply Wf.fL | apply Wf.fI | apply Wf.fr); (repeat (with_reducible first | assumption | apply Wf.wI | apply Wf.wL | apply Wf.fL | apply Wf.fI | apply Wf.fr)))) only [ck_225, gI_225, gL_225, pI_225, pZ0_225, pZ1_225, pL_225, gR_225_1, gR_225_3, gR_225_4, gR_225_5, gR_225_6, gR_225_7, gR_225_8, gR_225_9, gR_225_10, gR_225_11, gR_225_12, gR_225_13, gR_225_14, gR_225_15, gR_225_16, gR_225_17, gR_225_18, gR_225_19, gR_225_20, gR_225_21, gR_225_35, gR_225_36, gR_225_38, gR_225_39, gR_225_40, gR_225_41, gR_225_43, gR_225_44, gR_225_45, gR_225_48, gR_225_49, gR_225_50, gR_225_51, gR_225_53, gR_225_54, gR_225_55, gR_225_56, gR_225_58, gR_225_59, gR_225_60, gR_225_61, gR_225_62, gR_225_63, gR_225_66, gR_225_67, bq_s, bd_s, mp_s, rz_0, rz_1, bI_rz, zadd, zmul, zsub, le_nI, lt_nI, eq_nI, neg_nI, gen_nI, neg_lt, neg_le, neg_lt', neg_le', nI_lt0, if_true, if_false, ite_true, ite_false, reduceIte, not_true, not_false, and_true, true_and, and_false, false_and, or_true, true_or, or_false, false_or, eq_self, aI_227, rd_C h, hrv, show (nC D ≤ k) = False from eq_false (by omega)]
    by_cases q : k = riv D
    · rw [if_pos q]
      have : brkc D k = 0 := by unfold brkc; rw [q, riv_st h.t h.n hj.1]
      rw [cif_f (fun z => z this)] at ef
      rw [ef]
      exact ih (k + 1) fu τ (by omega) (by omega) hfr
    · rw [if_neg q]
      cases hx : stD D k with
      | none => exact absurd hx (jnd_laid hj hk' q)
      | some s =>
        have eb : brkc D k = brk D k s := by unfold brkc; rw [hx]
        have hb := brk_b D k s
        obtain ⟨⟨r1, r2⟩, k1, k2, k3⟩ := m_breaks h hn hF hk' hx
        have k2 : r1 = _ := k2
        subst k2
        rw [k1, bq_s]
        simp (disch := first | (with_reducible assumption) | omega | exact ⟨by omega, by omega⟩ | ((with_reducible first | apply Wf.wI | apply Wf.wL | apply Wf.fL | apply Wf.fI | apply Wf.fr); (repeat (with_reducible first | assumption | apply Wf.wI | apply Wf.wL | apply Wf.fL | apply Wf.fI | apply Wf.fr)))) only [zadd, zmul, zsub, le_nI, lt_nI, eq_nI, neg_nI, gen_nI, neg_lt, neg_le, neg_lt', neg_le', nI_lt0]
        by_cases q2 : brk D k s = 0
        · rw [if_pos q2]
          rw [cif_f (fun z => z (eb.trans q2))] at ef
          rw [ef]
          exact ih (k + 1) fu r2 (by omega) (by omega) (hfr.trans k3)
        · rw [if_neg q2]
          rw [cif_t (by rw [eb]; exact q2)] at ef
          rw [ef]
          by_cases q3 : w = nI 0
          · rw [if_pos q3]
            obtain ⟨⟨r3, r4⟩, j1, j2, j3⟩ := m_breaks (h.q (k3.mono Xa_q)) ((k3.I (by unfold Xa; omega)).trans hn) (hF.xa k3) hk' hx
            have j2 : r3 = _ := j2
            subst j2
            rw [j1, bq_s]
            refine ⟨_, rfl, ?_, hfr.trans (k3.trans j3)⟩
            show nI (brk D k s) = if w = nI 0 then nI (brkc D k) else nI k
            rw [if_pos q3, eb]
          · rw [if_neg q3]
            refine ⟨_, rfl, ?_, hfr.trans k3⟩
            show nI k = if w = nI 0 then nI (brkc D k) else nI k
            rw [if_neg q3]
theorem m_judged (h : MInv σ D) (w : Int32) : Ok (f_X12_judged 225 w σ) (fun q => q.1 = sJudged D w ∧ Fr Xq σ q.2) := by
  have hw := h.w
  have b1 := h.bd
  have f1 : Fr Xq σ (ah_wI σ 225 0 (nI 0)) := Fr.q0 (by omega)
  have f2 : Fr Xq σ (ah_wI (ah_wI σ 225 0 (nI 0)) 225 42 (nI 0)) := (Fr.q0 (by omega)).trans (Fr.q0 (by omega))
  have h2 := h.q f2
  unfold f_X12_judged f_X12_judged_0 sJudged
  simp only [to_bq, l_0, l_1, l_2, l_3, l_4, l_5, l_6, l_7, l_8, l_9, l_10, l_11, l_12, l_13, l_14, l_15, l_16, l_17, l_18, l_19, l_20, l_21, l_22, l_23, l_24, l_25, l_26, l_27, l_28, l_29, l_30, l_31, l_32, l_40, l_41, l_42, l_43, l_44, l_45, l_46, l_47, l_48, l_49, l_50, l_51, l_52, l_53, l_54, l_55, l_56, l_57, l_58, l_59, l_60, l_61, l_62, l_63, l_64, l_72, l_97, l_99, l_100, l_104, l_120, l_122, l_128, l_140, l_255, l_256, l_257, l_258, l_260, l_261, l_262, l_364, l_680, l_700, l_701, l_840, l_999, l_1023, l_1024, l_9999, l_10000, l_1000000, lm]
  simp (disch := first | (with_reducible assumption) | omega | exact ⟨by omega, by omega⟩ | ((with_reducible first | apply Wf.wI | apply Wf.wL | apply Wf.fL | apply Wf.fI | apply Wf.fr); (repeat (with_reducible first | assumption | apply Wf.wI | apply Wf.wL | apply Wf.fL | apply Wf.fI | apply Wf.fr)))) only [ck_225, gI_225, gL_225, pI_225, pZ0_225, pZ1_225, pL_225, gR_225_1, gR_225_3, gR_225_4, gR_225_5, gR_225_6, gR_225_7, gR_225_8, gR_225_9, gR_225_10, gR_225_11, gR_225_12, gR_225_13, gR_225_14, gR_225_15, gR_225_16, gR_225_17, gR_225_18, gR_225_19, gR_225_20, gR_225_21, gR_225_35, gR_225_36, gR_225_38, gR_225_39, gR_225_40, gR_225_41, gR_225_43, gR_225_44, gR_225_45, gR_225_48, gR_225_49, gR_225_50, gR_225_51, gR_225_53, gR_225_54, gR_225_55, gR_225_56, gR_225_58, gR_225_59, gR_225_60, gR_225_61, gR_225_62, gR_225_63, gR_225_66, gR_225_67, bq_s, bd_s, mp_s, rz_0, rz_1, bI_rz, lm]
  by_cases q1 : w < nI 0
  · rw [if_pos q1, if_pos q1]; exact ⟨_, rfl, rfl, f1⟩
  rw [if_neg q1, if_neg q1]
  by_cases q2 : w ≤ nI 1
  · rw [if_pos q2, if_pos q2, m_isJoined h2 rI_eq, bq_s]
    unfold jdl jdc
    by_cases qj : jnd D
    · rw [cif_t qj, cif_t qj, cI_t qj, if_neg (show ¬ nI 1 = nI 0 by decide)]
      obtain ⟨ρ, g1, g2, g3⟩ := m_run0 h2 (h2.st0 rI_eq)
      have h3 := h2.q (g2.mono Xr_q)
      rw [g1, bq_s]
      refine (m_jd46 h3 ((g2.I (by unfold Xr; omega)).trans rI_eq) g3 qj w (nC D) 0 5000 ρ (by omega) (by omega) Fr.rfl).mono (fun r q => ⟨?_, f2.trans ((g2.mono Xr_q).trans (q.2.mono Xa_q))⟩)
      rw [q.1]
      cases fp (fun c => brkc D c ≠ 0) 0 (nC D) with
      | some c => rfl
      | none =>
        show jd8 D w _ = _
        unfold jd8
        cases fp (bel D) 0 (nC D) with
        | some c => rfl
        | none => rfl
    · rw [cif_f qj, cif_f qj, cI_f qj, if_pos rfl, iteS]
      exact ⟨_, rfl, rfl, f2⟩
  · rw [if_neg q2, if_neg q2]; exact ⟨_, rfl, rfl, f1⟩
end
