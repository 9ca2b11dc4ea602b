/-! The reference's laws, second part: what a pipe carries and costs -/
def ah_fL (σ : ah_H) (a lo hi : Nat) (x : Int64) : ah_H := (σ.1, fun b j => if b = a ∧ lo ≤ j ∧ j < hi then x else σ.2.1 b j, σ.2.2)
def ah_fI (σ : ah_H) (a lo hi : Nat) (x : Int32) : ah_H := (fun b j => if b = a ∧ lo ≤ j ∧ j < hi then x else σ.1 b j, σ.2)
theorem L_fL (σ : ah_H) (a lo hi b j : Nat) (x : Int64) : ah_L (ah_fL σ a lo hi x) b j = if b = a ∧ lo ≤ j ∧ j < hi then x else ah_L σ b j := rfl
theorem I_fL (σ : ah_H) (a lo hi b j : Nat) (x : Int64) : ah_I (ah_fL σ a lo hi x) b j = ah_I σ b j := rfl
theorem R_fL (σ : ah_H) (a lo hi b j : Nat) (x : Int64) : ah_R (ah_fL σ a lo hi x) b j = ah_R σ b j := rfl
theorem I_fI (σ : ah_H) (a lo hi b j : Nat) (x : Int32) : ah_I (ah_fI σ a lo hi x) b j = if b = a ∧ lo ≤ j ∧ j < hi then x else ah_I σ b j := rfl
theorem L_fI (σ : ah_H) (a lo hi b j : Nat) (x : Int32) : ah_L (ah_fI σ a lo hi x) b j = ah_L σ b j := rfl
theorem R_fI (σ : ah_H) (a lo hi b j : Nat) (x : Int32) : ah_R (ah_fI σ a lo hi x) b j = ah_R σ b j := rfl
theorem Wf.fL {σ : ah_H} (h : Wf σ) (a lo hi : Nat) (x : Int64) : Wf (ah_fL σ a lo hi x) := h
theorem Wf.fI {σ : ah_H} (h : Wf σ) (a lo hi : Nat) (x : Int32) : Wf (ah_fI σ a lo hi x) := h
theorem Fr.fL {X : Nat → Nat → Prop} {σ τ : ah_H} (h : Fr X σ τ) {a lo hi : Nat} {x : Int64} (hx : ∀ j, lo ≤ j → j < hi → X a j) : Fr X σ (ah_fL τ a lo hi x) := by
  refine h.trans ⟨fun b j n => ⟨Eq.refl _, ?_⟩, fun _ _ _ => Eq.refl _, Eq.refl _⟩
  rw [L_fL, if_neg]
  rintro ⟨rfl, h1, h2⟩
  exact n (hx j h1 h2)
theorem Fr.fI {X : Nat → Nat → Prop} {σ τ : ah_H} (h : Fr X σ τ) {a lo hi : Nat} {x : Int32} (hx : ∀ j, lo ≤ j → j < hi → X a j) : Fr X σ (ah_fI τ a lo hi x) := by
  refine h.trans ⟨fun b j n => ⟨?_, Eq.refl _⟩, fun _ _ _ => Eq.refl _, Eq.refl _⟩
  rw [I_fI, if_neg]
  rintro ⟨rfl, h1, h2⟩
  exact n (hx j h1 h2)
theorem fL_0 (σ : ah_H) (a n : Nat) (x : Int64) : ah_fL σ a n n x = σ := by
  have : (fun b j => if b = a ∧ n ≤ j ∧ j < n then x else σ.2.1 b j) = σ.2.1 := funext fun b => funext fun j => if_neg (by omega)
  unfold ah_fL
  rw [this]
theorem fI_0 (σ : ah_H) (a n : Nat) (x : Int32) : ah_fI σ a n n x = σ := by
  have : (fun b j => if b = a ∧ n ≤ j ∧ j < n then x else σ.1 b j) = σ.1 := funext fun b => funext fun j => if_neg (by omega)
  unfold ah_fI
  rw [this]
theorem fL_s (σ : ah_H) {a k n : Nat} (x : Int64) (h : k < n) : ah_fL (ah_wL σ a k x) a (k + 1) n x = ah_fL σ a k n x := by
  have : (fun b j => if b = a ∧ k + 1 ≤ j ∧ j < n then x else (ah_wL σ a k x).2.1 b j) = (fun b j => if b = a ∧ k ≤ j ∧ j < n then x else σ.2.1 b j) := by
    funext b j
    show (if _ then _ else if b = a ∧ j = k then x else σ.2.1 b j) = _
    (repeat' split) <;> first | rfl | (exfalso; omega)
  unfold ah_fL
  rw [this]
  rfl
theorem fI_s (σ : ah_H) {a k n : Nat} (x : Int32) (h : k < n) : ah_fI (ah_wI σ a k x) a (k + 1) n x = ah_fI σ a k n x := by
  have : (fun b j => if b = a ∧ k + 1 ≤ j ∧ j < n then x else (ah_wI σ a k x).1 b j) = (fun b j => if b = a ∧ k ≤ j ∧ j < n then x else σ.1 b j) := by
    funext b j
    show (if _ then _ else if b = a ∧ j = k then x else σ.1 b j) = _
    (repeat' split) <;> first | rfl | (exfalso; omega)
  unfold ah_fI
  rw [this]
  rfl
section
variable {σ : ah_H} {D : DD}
theorem m_noNames2 : ∀ m k fu (σ : ah_H), k + m = 6 → m < fu → Wf σ → f_X12_noNames_2 fu 225 (nI k) σ = some (ah_fL σ 246 k 6 (iL 0)) := by
  intro m
  induction m with
  | zero =>
    intro k fu σ hk hf hw
    obtain ⟨fu, rfl⟩ : ∃ q, fu = q + 1 := ⟨fu - 1, by omega⟩
    obtain rfl : k = 6 := by omega
    show f_X12_noNames_2_b _ _ _ _ = _
    unfold f_X12_noNames_2_b
    simp only [to_bq, l_0, l_1, l_2, l_3, l_4, l_5, l_6, l_7, l_8, l_9, l_10, l_11, l_12, l_13, l_14, l_15, l_16, l_17, l_18, l_19, l_20, l_21, l_22, l_23, l_24, l_25, l_26, l_27, l_28, l_29, l_30, l_31, l_32, l_40, l_41, l_42, l_43, l_44, l_45, l_46, l_47, l_48, l_49, l_50, l_51, l_52, l_53, l_54, l_55, l_56, l_57, l_58, l_59, l_60, l_61, l_62, l_63, l_64, l_72, l_97, l_99, l_100, l_104, l_120, l_122, l_128, l_140, l_255, l_256, l_257, l_258, l_260, l_261, l_262, l_364, l_680, l_700, l_701, l_840, l_999, l_1023, l_1024, l_9999, l_10000, l_1000000, lm]
    simp (disch := first | (with_reducible assumption) | omega | exact ⟨by omega, by omega⟩ | ((with_reducible first | apply Wf.wI | apply Wf.wL | apply Wf.fr); (repeat (with_reducible first | assumption | apply Wf.wI | apply Wf.wL | apply Wf.fr)))) only [zadd, zmul, zsub, le_nI, lt_nI, eq_nI, neg_nI, gen_nI, neg_lt, neg_le, neg_lt', neg_le', nI_lt0, Nat.reduceEqDiff, Nat.reduceAdd, Nat.reduceMul, Nat.reduceSub, Nat.reduceLT, Nat.reduceLeDiff, Nat.add_sub_cancel, Nat.zero_add, Nat.add_zero, Nat.mul_zero, Nat.zero_mul, if_true, if_false, ite_true, ite_false, reduceIte, not_true, not_false, and_true, true_and, and_false, false_and, or_true, true_or, or_false, false_or, eq_self, fL_0]
  | succ m ih =>
    intro k fu σ hk hf hw
    obtain ⟨fu, rfl⟩ : ∃ q, fu = q + 1 := ⟨fu - 1, by omega⟩
    show f_X12_noNames_2_b _ _ _ _ = _
    unfold f_X12_noNames_2_b
    simp only [to_bq, l_0, l_1, l_2, l_3, l_4, l_5, l_6, l_7, l_8, l_9, l_10, l_11, l_12, l_13, l_14, l_15, l_16, l_17, l_18, l_19, l_20, l_21, l_22, l_23, l_24, l_25, l_26, l_27, l_28, l_29, l_30, l_31, l_32, l_40, l_41, l_42, l_43, l_44, l_45, l_46, l_47, l_48, l_49, l_50, l_51, l_52, l_53, l_54, l_55, l_56, l_57, l_58, l_59, l_60, l_61, l_62, l_63, l_64, l_72, l_97, l_99, l_100, l_104, l_120, l_122, l_128, l_140, l_255, l_256, l_257, l_258, l_260, l_261, l_262, l_364, l_680, l_700, l_701, l_840, l_999, l_1023, l_1024, l_9999, l_10000, l_1000000, lm]
    simp (disch := first | (with_reducible assumption) | omega | exact ⟨by omega, by omega⟩ | ((with_reducible first | apply Wf.wI | apply Wf.wL | apply Wf.fr); (repeat (with_reducible first | assumption | apply Wf.wI | apply Wf.wL | apply Wf.fr)))) only [ck_225, gI_225, gL_225, pI_225, pZ0_225, pZ1_225, pL_225, gR_225_1, gR_225_3, gR_225_4, gR_225_5, gR_225_6, gR_225_7, gR_225_8, gR_225_9, gR_225_10, gR_225_11, gR_225_12, gR_225_13, gR_225_14, gR_225_15, gR_225_16, gR_225_17, gR_225_18, gR_225_19, gR_225_20, gR_225_21, gR_225_35, gR_225_36, gR_225_38, gR_225_39, gR_225_40, gR_225_41, gR_225_43, gR_225_44, gR_225_45, gR_225_48, gR_225_49, gR_225_50, gR_225_51, gR_225_53, gR_225_54, gR_225_55, gR_225_56, gR_225_58, gR_225_59, gR_225_60, gR_225_61, gR_225_62, gR_225_63, gR_225_66, gR_225_67, bq_s, bd_s, mp_s, rz_0, rz_1, bI_rz, zadd, zmul, zsub, le_nI, lt_nI, eq_nI, neg_nI, gen_nI, neg_lt, neg_le, neg_lt', neg_le', nI_lt0, if_true, if_false, ite_true, ite_false, reduceIte, not_true, not_false, and_true, true_and, and_false, false_and, or_true, true_or, or_false, false_or, eq_self, sL_246, q_0, show (6 ≤ k) = False from eq_false (by omega)]
    rw [ih (k + 1) fu _ (by omega) (by omega) (hw.wL _ _ _), fL_s _ _ (by omega)]
theorem m_noNames (hw : Wf σ) : f_X12_noNames 225 σ = some (ah_fL σ 246 0 6 (iL 0)) := by
  unfold f_X12_noNames f_X12_noNames_0
  simp only [to_bq, l_0, l_1, l_2, l_3, l_4, l_5, l_6, l_7, l_8, l_9, l_10, l_11, l_12, l_13, l_14, l_15, l_16, l_17, l_18, l_19, l_20, l_21, l_22, l_23, l_24, l_25, l_26, l_27, l_28, l_29, l_30, l_31, l_32, l_40, l_41, l_42, l_43, l_44, l_45, l_46, l_47, l_48, l_49, l_50, l_51, l_52, l_53, l_54, l_55, l_56, l_57, l_58, l_59, l_60, l_61, l_62, l_63, l_64, l_72, l_97, l_99, l_100, l_104, l_120, l_122, l_128, l_140, l_255, l_256, l_257, l_258, l_260, l_261, l_262, l_364, l_680, l_700, l_701, l_840, l_999, l_1023, l_1024, l_9999, l_10000, l_1000000, lm]
  rw [ck_225 hw]
  exact m_noNames2 6 0 5000 σ (by omega) (by omega) hw
theorem iteB {α : Type} (p : Prop) [Decidable p] (t : α) : (if p then some (nI 0, t) else some (nI 1, t)) = some (bI (¬ p), t) := by
  unfold bI
  by_cases h : p
  · rw [if_pos h, if_neg (fun q => q h)]
  · rw [if_neg h, if_pos h]
theorem m_hasLaw (h : MInv σ D) {k : Nat} (hk : k < 3) : f_X12_hasLaw 225 (nI k) σ = some (bI (¬ lto D k ≤ lfr D k), σ) := by
  have hw := h.w
  obtain ⟨b1, b2', b3⟩ := h.t.qfrom hk
  unfold f_X12_hasLaw f_X12_hasLaw_0
  simp only [to_bq, l_0, l_1, l_2, l_3, l_4, l_5, l_6, l_7, l_8, l_9, l_10, l_11, l_12, l_13, l_14, l_15, l_16, l_17, l_18, l_19, l_20, l_21, l_22, l_23, l_24, l_25, l_26, l_27, l_28, l_29, l_30, l_31, l_32, l_40, l_41, l_42, l_43, l_44, l_45, l_46, l_47, l_48, l_49, l_50, l_51, l_52, l_53, l_54, l_55, l_56, l_57, l_58, l_59, l_60, l_61, l_62, l_63, l_64, l_72, l_97, l_99, l_100, l_104, l_120, l_122, l_128, l_140, l_255, l_256, l_257, l_258, l_260, l_261, l_262, l_364, l_680, l_700, l_701, l_840, l_999, l_1023, l_1024, l_9999, l_10000, l_1000000, lm]
  simp (disch := first | (with_reducible assumption) | omega | exact ⟨by omega, by omega⟩ | ((with_reducible first | apply Wf.wI | apply Wf.wL | apply Wf.fr); (repeat (with_reducible first | assumption | apply Wf.wI | apply Wf.wL | apply Wf.fr)))) only [ck_225, gI_225, gL_225, pI_225, pZ0_225, pZ1_225, pL_225, gR_225_1, gR_225_3, gR_225_4, gR_225_5, gR_225_6, gR_225_7, gR_225_8, gR_225_9, gR_225_10, gR_225_11, gR_225_12, gR_225_13, gR_225_14, gR_225_15, gR_225_16, gR_225_17, gR_225_18, gR_225_19, gR_225_20, gR_225_21, gR_225_35, gR_225_36, gR_225_38, gR_225_39, gR_225_40, gR_225_41, gR_225_43, gR_225_44, gR_225_45, gR_225_48, gR_225_49, gR_225_50, gR_225_51, gR_225_53, gR_225_54, gR_225_55, gR_225_56, gR_225_58, gR_225_59, gR_225_60, gR_225_61, gR_225_62, gR_225_63, gR_225_66, gR_225_67, bq_s, bd_s, mp_s, rz_0, rz_1, bI_rz, zadd, zmul, zsub, le_nI, lt_nI, eq_nI, neg_nI, gen_nI, neg_lt, neg_le, neg_lt', neg_le', nI_lt0, aI_242, aI_243, rd_to h, rd_from h, iteB]
theorem m_law (h : MInv σ D) {k : Nat} (hk : k < 3) {nm : Nat → Int} (hnb : ∀ j, j < 6 → LB1 (nm j)) (er : Int) (ht : lfr D k < lto D k) (hnm : ∀ j, j < 6 → ah_L σ 246 j = iL (nm j)) : Ok (f_X12_law 225 (nI k) (iL er) σ) (fun r => r.1 = iL (lawv D k nm er) ∧ Fr Xw σ r.2) := by
  have hw := h.w
  obtain ⟨b1, b2', b3⟩ := h.t.qfrom hk
  unfold f_X12_law f_X12_law_0
  simp only [to_bq, l_0, l_1, l_2, l_3, l_4, l_5, l_6, l_7, l_8, l_9, l_10, l_11, l_12, l_13, l_14, l_15, l_16, l_17, l_18, l_19, l_20, l_21, l_22, l_23, l_24, l_25, l_26, l_27, l_28, l_29, l_30, l_31, l_32, l_40, l_41, l_42, l_43, l_44, l_45, l_46, l_47, l_48, l_49, l_50, l_51, l_52, l_53, l_54, l_55, l_56, l_57, l_58, l_59, l_60, l_61, l_62, l_63, l_64, l_72, l_97, l_99, l_100, l_104, l_120, l_122, l_128, l_140, l_255, l_256, l_257, l_258, l_260, l_261, l_262, l_364, l_680, l_700, l_701, l_840, l_999, l_1023, l_1024, l_9999, l_10000, l_1000000, lm]
  simp (disch := first | (with_reducible assumption) | omega | exact ⟨by omega, by omega⟩ | ((with_reducible first | apply Wf.wI | apply Wf.wL | apply Wf.fr); (repeat (with_reducible first | assumption | apply Wf.wI | apply Wf.wL | apply Wf.fr)))) only [ck_225, gI_225, gL_225, pI_225, pZ0_225, pZ1_225, pL_225, gR_225_1, gR_225_3, gR_225_4, gR_225_5, gR_225_6, gR_225_7, gR_225_8, gR_225_9, gR_225_10, gR_225_11, gR_225_12, gR_225_13, gR_225_14, gR_225_15, gR_225_16, gR_225_17, gR_225_18, gR_225_19, gR_225_20, gR_225_21, gR_225_35, gR_225_36, gR_225_38, gR_225_39, gR_225_40, gR_225_41, gR_225_43, gR_225_44, gR_225_45, gR_225_48, gR_225_49, gR_225_50, gR_225_51, gR_225_53, gR_225_54, gR_225_55, gR_225_56, gR_225_58, gR_225_59, gR_225_60, gR_225_61, gR_225_62, gR_225_63, gR_225_66, gR_225_67, bq_s, bd_s, mp_s, rz_0, rz_1, bI_rz, zadd, zmul, zsub, le_nI, lt_nI, eq_nI, neg_nI, gen_nI, neg_lt, neg_le, neg_lt', neg_le', nI_lt0, rI_ne, rI_eq, rL_ne, rL_eq, ah_I_wL, ah_L_wI, ah_R_wI, ah_R_wL, ah_I_wR, ah_L_wR, rR_ne, rR_eq, aI_242, rd_from h]
  exact m_law13 h hk hnb er (lto D k - lfr D k) (lfr D k) 5000 _ [] (by omega) (by omega) (Nat.le_refl _) (Nat.zero_le _) (h.t.qst hk ht) (Fr.rfl.wI (by unfold Xw; omega)) hnm trivial rI_eq
theorem kst_b (h : MT D) {nm : Nat → Int} (hnm : ∀ j, LB1 (nm j)) {i : Nat} (hi : i < nK D) {s s' : List Int} (hs : ∀ x, x ∈ s → LB1 x) (e : kst D nm i s = some s') : ∀ x, x ∈ s' → LB1 x := by
  have hkn := h.qkn hi
  unfold kst at e
  split at e
  · cases s with
    | nil => cases e
    | cons y s1 =>
      simp only at e
      split at e
      · cases e
        intro x hx
        rcases List.mem_cons.mp hx with rfl | hx
        · exact b2_b _
        · exact hs x (List.mem_cons_of_mem _ hx)
      · cases s1 with
        | nil => cases e
        | cons x0 s2 =>
          simp only at e
          obtain ⟨z, hz, rfl⟩ := Option.map_eq_some_iff.mp e
          intro x hx
          rcases List.mem_cons.mp hx with rfl | hx
          · exact jn_b hz
          · exact hs x (List.mem_cons_of_mem _ (List.mem_cons_of_mem _ hx))
  · split at e
    · next g0 g1 =>
      cases e
      intro x hx
      rcases List.mem_cons.mp hx with rfl | hx
      · rcases hkn with ⟨_, g⟩ | ⟨g, _⟩ | ⟨g, _⟩
        · have := g.le
          exact ⟨by omega, by omega⟩
        · rw [g1] at g; exact absurd g (by decide)
        · rw [g1] at g; exact absurd g (by decide)
      · exact hs x hx
    · cases e
      intro x hx
      rcases List.mem_cons.mp hx with rfl | hx
      · exact hnm _
      · exact hs x hx
theorem evl_b (h : MT D) {nm : Nat → Int} (hnm : ∀ j, LB1 (nm j)) : ∀ m i s s', i + m ≤ nK D → (∀ x, x ∈ s → LB1 x) → evl D nm i m s = some s' → ∀ x, x ∈ s' → LB1 x := by
  intro m
  induction m with
  | zero => intro i s s' _ hs e; cases e; exact hs
  | succ m ih =>
    intro i s s' hi hs e
    obtain ⟨s1, h1, h2⟩ := op_bd (show (kst D nm i s).bind (evl D nm (i + 1) m) = some s' from e)
    exact ih (i + 1) s1 s' (by omega) (kst_b h hnm (by omega) hs h1) h2
theorem lawv_b (h : MT D) {k : Nat} (hk : k < 3) {nm : Nat → Int} (hnm : ∀ j, LB1 (nm j)) {er : Int} (h0 : 0 ≤ er) (h1 : er ≤ 1000000000000) : 0 ≤ lawv D k nm er ∧ lawv D k nm er ≤ 1000000000000 := by
  obtain ⟨b1, b2', b3⟩ := h.qfrom hk
  unfold lawv
  cases e : evl D nm (lfr D k) (lto D k - lfr D k) [] with
  | none => exact ⟨h0, h1⟩
  | some s =>
    cases s with
    | nil => exact ⟨h0, h1⟩
    | cons v s =>
      have := evl_b h hnm _ _ _ _ (by omega) (fun x hx => by cases hx) e v (List.mem_cons_self ..)
      unfold LB1 at this
      show 0 ≤ max 0 v ∧ max 0 v ≤ _
      omega
abbrev told (D : DD) (k : Nat) : Prop := ¬ lto D k ≤ lfr D k
def nmC (w f : Int) (j : Nat) : Int := if j = 0 then w else if j = 1 then f else 0
def nmD (w d r : Int) (j : Nat) : Int := if j = 0 then w else if j = 2 then d else if j = 3 then r else 0
def nmP (l f : Int) (j : Nat) : Int := if j = 4 then l else if j = 5 then f else 0
/-- what a pipe carries, by its width and fall -/
def carv (D : DD) (w : Nat) (f : Int) : Int := if told D 0 then lawv D 0 (nmC w f) 0 else max 0 ((w : Int) * f)
def digv (D : DD) (w d r : Nat) : Int := if told D 1 then lawv D 1 (nmD w d r) 9999 else (d : Int)
def pumpv (D : DD) (l : Nat) (f : Int) : Int := if l = 0 then 0 else if told D 2 then lawv D 2 (nmP l f) 9999 else 0
def costv (D : DD) (c p s a b : Nat) : Int := (len D s : Int) * ((pri D p : Int) + digv D (wid D p) ((a + b) / 2) ((a + b) / 2 - rck D c))
theorem nmC_b {w f : Int} (hw : LB1 w) (hf : LB1 f) (j : Nat) : LB1 (nmC w f j) := by
  unfold nmC; (repeat' split) <;> first | assumption | exact ⟨by omega, by omega⟩
theorem nmD_b {w d r : Int} (hw : LB1 w) (hd : LB1 d) (hr : LB1 r) (j : Nat) : LB1 (nmD w d r j) := by
  unfold nmD; (repeat' split) <;> first | assumption | exact ⟨by omega, by omega⟩
theorem nmP_b {l f : Int} (hl : LB1 l) (hf : LB1 f) (j : Nat) : LB1 (nmP l f j) := by
  unfold nmP; (repeat' split) <;> first | assumption | exact ⟨by omega, by omega⟩
theorem carv_b (h : MT D) {w : Nat} {f : Int} (hw : w ≤ 99) (hf : -100000 ≤ f ∧ f ≤ 100000) : 0 ≤ carv D w f ∧ carv D w f ≤ 1000000000000 := by
  unfold carv
  split
  · exact lawv_b h (by omega) (nmC_b ⟨by omega, by omega⟩ ⟨by omega, by omega⟩) (by omega) (by omega)
  · have h1 : (w : Int) * f ≤ 99 * 100000 := by
      by_cases q : 0 ≤ f
      · exact Int.mul_le_mul (by omega) hf.2 q (by omega)
      · have := Int.mul_nonpos_of_nonneg_of_nonpos (show (0 : Int) ≤ w by omega) (show f ≤ 0 by omega)
        omega
    omega
theorem digv_b (h : MT D) {w d r : Nat} (hw : w ≤ 99) (hd : d ≤ 100) (hr : r ≤ 100) : 0 ≤ digv D w d r ∧ digv D w d r ≤ 1000000000000 := by
  unfold digv
  split
  · exact lawv_b h (by omega) (nmD_b ⟨by omega, by omega⟩ ⟨by omega, by omega⟩ ⟨by omega, by omega⟩) (by omega) (by omega)
  · omega
theorem pumpv_b (h : MT D) {l : Nat} {f : Int} (hl : l ≤ 100) (hf : 0 ≤ f ∧ f ≤ 1000000000000) : 0 ≤ pumpv D l f ∧ pumpv D l f ≤ 1000000000000 := by
  unfold pumpv
  split
  · omega
  split
  · exact lawv_b h (by omega) (nmP_b ⟨by omega, by omega⟩ ⟨by omega, by omega⟩) (by omega) (by omega)
  · omega
/-- what work on a pipe's law writes -/
def Xv (a j : Nat) : Prop := a = 225 ∧ j = 37 ∨ a = 246 ∨ a = 247
theorem Xv_q : ∀ a j, Xv a j → Xq a j := by
  intro a j h; unfold Xv at h; unfold Xq; omega
theorem Xw_v : ∀ a j, Xw a j → Xv a j := by
  intro a j h; unfold Xw at h; unfold Xv; omega
theorem toL_j2 {z : Int} (h : -2147483648 ≤ z) (h2 : z < 2147483648) : Int32.toInt64 (jI z) = iL z := toL_j ⟨h, h2⟩
theorem tdiv_b {z : Int} {n : Nat} (h : -3000 ≤ z ∧ z ≤ 3000) : -3000 ≤ z.tdiv (n : Int) ∧ z.tdiv (n : Int) ≤ 3000 := by
  have h1 : (z.tdiv (n : Int)).natAbs ≤ z.natAbs := by
    rw [Int.natAbs_tdiv]; exact Nat.div_le_self _ _
  omega
theorem m_carriesBy (h : MInv σ D) {p s : Nat} {z : Int} (hp : p < nP D) (hs : s < nS D) (hz : -3000 ≤ z ∧ z ≤ 3000) : Ok (f_X12_carriesBy 225 (nI p) (nI s) (jI z) σ) (fun r => r.1 = iL (carv D (wid D p) (z.tdiv (len D s))) ∧ Fr Xv σ r.2) := by
  have hw := h.w
  have b1 := h.bd
  have b2' := h.t.qwid99 hp
  have b3 := h.t.qlen1 hs
  have b4 := h.t.qlen99 hs
  obtain ⟨b5, b6⟩ := tdiv_b (n := len D s) hz
  have e1 := jI_n (len D s)
  have hdv : op_div (jI z) (nI (len D s)) = some (jI (z.tdiv (len D s))) := by
    rw [e1]; exact div_j (by omega) (by omega) ⟨by omega, by omega⟩ (by omega)
  have hwf : Wf (ah_fL σ 246 0 6 (iL 0)) := hw.fL _ _ _ _
  unfold f_X12_carriesBy f_X12_carriesBy_0
  simp only [to_bq, l_0, l_1, l_2, l_3, l_4, l_5, l_6, l_7, l_8, l_9, l_10, l_11, l_12, l_13, l_14, l_15, l_16, l_17, l_18, l_19, l_20, l_21, l_22, l_23, l_24, l_25, l_26, l_27, l_28, l_29, l_30, l_31, l_32, l_40, l_41, l_42, l_43, l_44, l_45, l_46, l_47, l_48, l_49, l_50, l_51, l_52, l_53, l_54, l_55, l_56, l_57, l_58, l_59, l_60, l_61, l_62, l_63, l_64, l_72, l_97, l_99, l_100, l_104, l_120, l_122, l_128, l_140, l_255, l_256, l_257, l_258, l_260, l_261, l_262, l_364, l_680, l_700, l_701, l_840, l_999, l_1023, l_1024, l_9999, l_10000, l_1000000, lm]
  rw [ck_225 hw, m_noNames hw, bq_s]
  simp (disch := first | (with_reducible assumption) | omega | exact ⟨by omega, by omega⟩ | ((with_reducible first | apply Wf.wI | apply Wf.wL | apply Wf.fr); (repeat (with_reducible first | assumption | apply Wf.wI | apply Wf.wL | apply Wf.fr)))) only [ck_225, gI_225, gL_225, pI_225, pZ0_225, pZ1_225, pL_225, gR_225_1, gR_225_3, gR_225_4, gR_225_5, gR_225_6, gR_225_7, gR_225_8, gR_225_9, gR_225_10, gR_225_11, gR_225_12, gR_225_13, gR_225_14, gR_225_15, gR_225_16, gR_225_17, gR_225_18, gR_225_19, gR_225_20, gR_225_21, gR_225_35, gR_225_36, gR_225_38, gR_225_39, gR_225_40, gR_225_41, gR_225_43, gR_225_44, gR_225_45, gR_225_48, gR_225_49, gR_225_50, gR_225_51, gR_225_53, gR_225_54, gR_225_55, gR_225_56, gR_225_58, gR_225_59, gR_225_60, gR_225_61, gR_225_62, gR_225_63, gR_225_66, gR_225_67, bq_s, bd_s, mp_s, rz_0, rz_1, bI_rz, rI_ne, rI_eq, rL_ne, rL_eq, ah_I_wL, ah_L_wI, ah_R_wI, ah_R_wL, ah_I_wR, ah_L_wR, rR_ne, rR_eq, aI_237, aI_234, I_fL, rd_wid h, rd_len h, sL_246, hdv, toL_n, toL_j2]
  have hf : Fr Xv σ (ah_wL (ah_wL (ah_fL σ 246 0 6 (iL 0)) 246 0 (iL (wid D p))) 246 1 (iL (z.tdiv (len D s)))) := ((Fr.rfl.fL (fun j _ _ => by unfold Xv; omega)).wL (by unfold Xv; omega)).wL (by unfold Xv; omega)
  have hn : ∀ j, j < 6 → ah_L (ah_wL (ah_wL (ah_fL σ 246 0 6 (iL 0)) 246 0 (iL (wid D p))) 246 1 (iL (z.tdiv (len D s)))) 246 j = iL (nmC (wid D p) (z.tdiv (len D s)) j) := by
    intro j hj
    simp only [ah_L_wL, L_fL, if_true, if_false, ite_true, ite_false, reduceIte, not_true, not_false, and_true, true_and, and_false, false_and, or_true, true_or, or_false, false_or, eq_self]
    unfold nmC
    (repeat' split) <;> first | rfl | (exfalso; omega)
  generalize hτ : ah_wL (ah_wL (ah_fL σ 246 0 6 (iL 0)) 246 0 (iL (wid D p))) 246 1 (iL (z.tdiv (len D s))) = τ at hf hn ⊢
  have h' : MInv τ D := h.q (hf.mono Xv_q)
  have hw' := h'.w
  simp (disch := first | (with_reducible assumption) | omega | exact ⟨by omega, by omega⟩ | ((with_reducible first | apply Wf.wI | apply Wf.wL | apply Wf.fr); (repeat (with_reducible first | assumption | apply Wf.wI | apply Wf.wL | apply Wf.fr)))) only [m_hasLaw h', bq_s, bd_s, mp_s, rz_0, rz_1, bI_rz, bI_0]
  unfold carv
  by_cases q : told D 0
  · rw [if_pos q, if_neg (fun r => r q)]
    obtain ⟨⟨r1, r2⟩, e, hr1, hr2⟩ := m_law h' (k := 0) (by omega) (nm := nmC (wid D p) (z.tdiv (len D s))) (fun j _ => nmC_b ⟨by omega, by omega⟩ ⟨by omega, by omega⟩ j) 0 (by unfold told at q; omega) hn
    rw [q_0, e]
    exact ⟨_, rfl, hr1, hf.trans (hr2.mono Xw_v)⟩
  · rw [if_neg q, if_pos q]
    have n0 : ah_L τ 246 0 = iL (wid D p) := hn 0 (by omega)
    have n1 : ah_L τ 246 1 = iL (z.tdiv (len D s)) := hn 1 (by omega)
    have hm1 : (wid D p : Int) * (z.tdiv (len D s)) ≤ 99 * 3000 := by
      by_cases q : 0 ≤ z.tdiv (len D s)
      · exact Int.mul_le_mul (by omega) b6 q (by omega)
      · have := Int.mul_nonpos_of_nonneg_of_nonpos (show (0 : Int) ≤ wid D p by omega) (show z.tdiv (len D s) ≤ 0 by omega)
        omega
    have hm2 : -(99 * 3000) ≤ (wid D p : Int) * (z.tdiv (len D s)) := by
      have h1 : (wid D p : Int) * (-(z.tdiv (len D s))) ≤ 99 * 3000 := by
        by_cases q : 0 ≤ -(z.tdiv (len D s))
        · exact Int.mul_le_mul (by omega) (by omega) q (by omega)
        · have := Int.mul_nonpos_of_nonneg_of_nonpos (show (0 : Int) ≤ wid D p by omega) (show -(z.tdiv (len D s)) ≤ 0 by omega)
          omega
      rw [Int.mul_neg] at h1
      omega
    simp (disch := first | (with_reducible assumption) | omega | exact ⟨by omega, by omega⟩ | ((with_reducible first | apply Wf.wI | apply Wf.wL | apply Wf.fr); (repeat (with_reducible first | assumption | apply Wf.wI | apply Wf.wL | apply Wf.fr)))) only [ck_225, gI_225, gL_225, pI_225, pZ0_225, pZ1_225, pL_225, gR_225_1, gR_225_3, gR_225_4, gR_225_5, gR_225_6, gR_225_7, gR_225_8, gR_225_9, gR_225_10, gR_225_11, gR_225_12, gR_225_13, gR_225_14, gR_225_15, gR_225_16, gR_225_17, gR_225_18, gR_225_19, gR_225_20, gR_225_21, gR_225_35, gR_225_36, gR_225_38, gR_225_39, gR_225_40, gR_225_41, gR_225_43, gR_225_44, gR_225_45, gR_225_48, gR_225_49, gR_225_50, gR_225_51, gR_225_53, gR_225_54, gR_225_55, gR_225_56, gR_225_58, gR_225_59, gR_225_60, gR_225_61, gR_225_62, gR_225_63, gR_225_66, gR_225_67, aL_246, n0, n1, bq_s, bd_s, mp_s, rz_0, rz_1, bI_rz, q_0, q_1, q_100, q_9999, q_1000000000000, q_100000000000000000, q_4000000000000000000, q_4611686018427387903, q_9223372036854775807, iadd, isub, imul, ineg, cmp_e, cmp_le, cmp_lt, cmp_ge, cmp_gt, maxl_i, minl_i, absl_i, toL_n, ldiv_i]
    exact ⟨_, rfl, rfl, hf⟩
theorem m_costBy (h : MInv σ D) {c p s a b : Nat} (hc : c < nC D) (hp : p < nP D) (hs : s < nS D) (ha : a ≤ 12) (hb : b ≤ 12) : Ok (f_X12_costBy 225 (nI c) (nI p) (nI s) (nI a) (nI b) σ) (fun r => r.1 = iL (costv D c p s a b) ∧ Fr Xv σ r.2) := by
  have hw := h.w
  have b1 := h.bd
  have b2' := h.t.qwid99 hp
  have b3 := h.t.qlen1 hs
  have b4 := h.t.qlen99 hs
  have b5 := h.t.qrck20 hc
  have b6 := h.t.qpri99 hp
  have hwf : Wf (ah_fL σ 246 0 6 (iL 0)) := hw.fL _ _ _ _
  have hdv : op_div (nI (a + b)) (nI 2) = some (nI ((a + b) / 2)) := div_nI (by omega) (by omega) (by omega)
  have hmx : op_maxi (nI 0) (nI ((a + b) / 2) - nI (rck D c)) = nI ((a + b) / 2 - rck D c) := by
    rw [jI_n, jI_n, jI_n, jsub, maxi_j ⟨by omega, by omega⟩ ⟨by omega, by omega⟩, jI_n]
    congr 1
    omega
  unfold f_X12_costBy f_X12_costBy_0
  simp only [to_bq, l_0, l_1, l_2, l_3, l_4, l_5, l_6, l_7, l_8, l_9, l_10, l_11, l_12, l_13, l_14, l_15, l_16, l_17, l_18, l_19, l_20, l_21, l_22, l_23, l_24, l_25, l_26, l_27, l_28, l_29, l_30, l_31, l_32, l_40, l_41, l_42, l_43, l_44, l_45, l_46, l_47, l_48, l_49, l_50, l_51, l_52, l_53, l_54, l_55, l_56, l_57, l_58, l_59, l_60, l_61, l_62, l_63, l_64, l_72, l_97, l_99, l_100, l_104, l_120, l_122, l_128, l_140, l_255, l_256, l_257, l_258, l_260, l_261, l_262, l_364, l_680, l_700, l_701, l_840, l_999, l_1023, l_1024, l_9999, l_10000, l_1000000, lm]
  rw [ck_225 hw, m_noNames hw, bq_s]
  simp (disch := first | (with_reducible assumption) | omega | exact ⟨by omega, by omega⟩ | ((with_reducible first | apply Wf.wI | apply Wf.wL | apply Wf.fr); (repeat (with_reducible first | assumption | apply Wf.wI | apply Wf.wL | apply Wf.fr)))) only [ck_225, gI_225, gL_225, pI_225, pZ0_225, pZ1_225, pL_225, gR_225_1, gR_225_3, gR_225_4, gR_225_5, gR_225_6, gR_225_7, gR_225_8, gR_225_9, gR_225_10, gR_225_11, gR_225_12, gR_225_13, gR_225_14, gR_225_15, gR_225_16, gR_225_17, gR_225_18, gR_225_19, gR_225_20, gR_225_21, gR_225_35, gR_225_36, gR_225_38, gR_225_39, gR_225_40, gR_225_41, gR_225_43, gR_225_44, gR_225_45, gR_225_48, gR_225_49, gR_225_50, gR_225_51, gR_225_53, gR_225_54, gR_225_55, gR_225_56, gR_225_58, gR_225_59, gR_225_60, gR_225_61, gR_225_62, gR_225_63, gR_225_66, gR_225_67, bq_s, bd_s, mp_s, rz_0, rz_1, bI_rz, rI_ne, rI_eq, rL_ne, rL_eq, ah_I_wL, ah_L_wI, ah_R_wI, ah_R_wL, ah_I_wR, ah_L_wR, rR_ne, rR_eq, zadd, zmul, zsub, le_nI, lt_nI, eq_nI, neg_nI, gen_nI, neg_lt, neg_le, neg_lt', neg_le', nI_lt0, aI_237, aI_234, aI_231, aI_238, I_fL, rd_wid h, rd_len h, rd_rck h, rd_pri h, sL_246, hdv, hmx, toL_n]
  generalize hg : (a + b) / 2 = g at *
  have hf : Fr Xv σ (ah_wL (ah_wL (ah_wL (ah_fL σ 246 0 6 (iL 0)) 246 0 (iL (wid D p))) 246 2 (iL g)) 246 3 (iL ((g - rck D c : Nat) : Int))) := (((Fr.rfl.fL (fun j _ _ => by unfold Xv; omega)).wL (by unfold Xv; omega)).wL (by unfold Xv; omega)).wL (by unfold Xv; omega)
  have hn : ∀ j, j < 6 → ah_L (ah_wL (ah_wL (ah_wL (ah_fL σ 246 0 6 (iL 0)) 246 0 (iL (wid D p))) 246 2 (iL g)) 246 3 (iL ((g - rck D c : Nat) : Int))) 246 j = iL (nmD (wid D p) g ((g - rck D c : Nat) : Int) j) := by
    intro j hj
    simp only [ah_L_wL, L_fL, if_true, if_false, ite_true, ite_false, reduceIte, not_true, not_false, and_true, true_and, and_false, false_and, or_true, true_or, or_false, false_or, eq_self]
    unfold nmD
    (repeat' split) <;> first | rfl | (exfalso; omega)
  generalize hτ : ah_wL (ah_wL (ah_wL (ah_fL σ 246 0 6 (iL 0)) 246 0 (iL (wid D p))) 246 2 (iL g)) 246 3 (iL ((g - rck D c : Nat) : Int)) = τ at hf hn ⊢
  have h' : MInv τ D := h.q (hf.mono Xv_q)
  have hw' := h'.w
  simp (disch := first | (with_reducible assumption) | omega | exact ⟨by omega, by omega⟩ | ((with_reducible first | apply Wf.wI | apply Wf.wL | apply Wf.fr); (repeat (with_reducible first | assumption | apply Wf.wI | apply Wf.wL | apply Wf.fr)))) only [m_hasLaw h', bq_s, bd_s, mp_s, rz_0, rz_1, bI_rz, bI_0]
  unfold costv digv
  rw [hg]
  by_cases q : told D 1
  · rw [if_pos q, if_neg (fun r => r q)]
    obtain ⟨⟨r1, r2⟩, e, hr1, hr2⟩ := m_law h' (k := 1) (by omega) (nm := nmD (wid D p) g ((g - rck D c : Nat) : Int)) (fun j _ => nmD_b ⟨by omega, by omega⟩ ⟨by omega, by omega⟩ ⟨by omega, by omega⟩ j) 9999 (by unfold told at q; omega) hn
    rw [q_9999, e, bq_s]
    have hr1 : r1 = _ := hr1
    subst hr1
    refine ⟨_, rfl, ?_, hf.trans (hr2.mono Xw_v)⟩
    simp (disch := first | (with_reducible assumption) | omega | exact ⟨by omega, by omega⟩ | ((with_reducible first | apply Wf.wI | apply Wf.wL | apply Wf.fr); (repeat (with_reducible first | assumption | apply Wf.wI | apply Wf.wL | apply Wf.fr)))) only [toL_n, iadd, imul]
  · rw [if_neg q, if_pos q]
    refine ⟨_, rfl, ?_, hf⟩
    simp (disch := first | (with_reducible assumption) | omega | exact ⟨by omega, by omega⟩ | ((with_reducible first | apply Wf.wI | apply Wf.wL | apply Wf.fr); (repeat (with_reducible first | assumption | apply Wf.wI | apply Wf.wL | apply Wf.fr)))) only [toL_n, iadd, imul]
theorem m_pumpBy (h : MInv σ D) {l : Nat} {f : Int} (hl : l ≤ 12) (hf0 : 0 ≤ f) (hf1 : f ≤ 1000000000000) : Ok (f_X12_pumpBy 225 (nI l) (iL f) σ) (fun r => r.1 = iL (pumpv D l f) ∧ Fr Xv σ r.2) := by
  have hw := h.w
  unfold f_X12_pumpBy f_X12_pumpBy_0 pumpv
  simp only [to_bq, l_0, l_1, l_2, l_3, l_4, l_5, l_6, l_7, l_8, l_9, l_10, l_11, l_12, l_13, l_14, l_15, l_16, l_17, l_18, l_19, l_20, l_21, l_22, l_23, l_24, l_25, l_26, l_27, l_28, l_29, l_30, l_31, l_32, l_40, l_41, l_42, l_43, l_44, l_45, l_46, l_47, l_48, l_49, l_50, l_51, l_52, l_53, l_54, l_55, l_56, l_57, l_58, l_59, l_60, l_61, l_62, l_63, l_64, l_72, l_97, l_99, l_100, l_104, l_120, l_122, l_128, l_140, l_255, l_256, l_257, l_258, l_260, l_261, l_262, l_364, l_680, l_700, l_701, l_840, l_999, l_1023, l_1024, l_9999, l_10000, l_1000000, lm]
  rw [ck_225 hw]
  simp (disch := first | (with_reducible assumption) | omega | exact ⟨by omega, by omega⟩ | ((with_reducible first | apply Wf.wI | apply Wf.wL | apply Wf.fr); (repeat (with_reducible first | assumption | apply Wf.wI | apply Wf.wL | apply Wf.fr)))) only [zadd, zmul, zsub, le_nI, lt_nI, eq_nI, neg_nI, gen_nI, neg_lt, neg_le, neg_lt', neg_le', nI_lt0, m_hasLaw h, bq_s, bd_s, mp_s, rz_0, rz_1, bI_rz, bI_0]
  by_cases q0 : l = 0
  · rw [if_pos q0, if_pos q0]
    exact ⟨_, rfl, rfl, Fr.rfl⟩
  · rw [if_neg q0, if_neg q0]
    by_cases q : told D 2
    · rw [if_pos q, if_neg (fun r => r q), m_noNames hw, bq_s]
      have hwf : Wf (ah_fL σ 246 0 6 (iL 0)) := hw.fL _ _ _ _
      simp (disch := first | (with_reducible assumption) | omega | exact ⟨by omega, by omega⟩ | ((with_reducible first | apply Wf.wI | apply Wf.wL | apply Wf.fr); (repeat (with_reducible first | assumption | apply Wf.wI | apply Wf.wL | apply Wf.fr)))) only [ck_225, gI_225, gL_225, pI_225, pZ0_225, pZ1_225, pL_225, gR_225_1, gR_225_3, gR_225_4, gR_225_5, gR_225_6, gR_225_7, gR_225_8, gR_225_9, gR_225_10, gR_225_11, gR_225_12, gR_225_13, gR_225_14, gR_225_15, gR_225_16, gR_225_17, gR_225_18, gR_225_19, gR_225_20, gR_225_21, gR_225_35, gR_225_36, gR_225_38, gR_225_39, gR_225_40, gR_225_41, gR_225_43, gR_225_44, gR_225_45, gR_225_48, gR_225_49, gR_225_50, gR_225_51, gR_225_53, gR_225_54, gR_225_55, gR_225_56, gR_225_58, gR_225_59, gR_225_60, gR_225_61, gR_225_62, gR_225_63, gR_225_66, gR_225_67, bq_s, bd_s, mp_s, rz_0, rz_1, bI_rz, sL_246, toL_n]
      have hf : Fr Xv σ (ah_wL (ah_wL (ah_fL σ 246 0 6 (iL 0)) 246 4 (iL l)) 246 5 (iL f)) := ((Fr.rfl.fL (fun j _ _ => by unfold Xv; omega)).wL (by unfold Xv; omega)).wL (by unfold Xv; omega)
      have hn : ∀ j, j < 6 → ah_L (ah_wL (ah_wL (ah_fL σ 246 0 6 (iL 0)) 246 4 (iL l)) 246 5 (iL f)) 246 j = iL (nmP l f j) := by
        intro j hj
        simp only [ah_L_wL, L_fL, if_true, if_false, ite_true, ite_false, reduceIte, not_true, not_false, and_true, true_and, and_false, false_and, or_true, true_or, or_false, false_or, eq_self]
        unfold nmP
        (repeat' split) <;> first | rfl | (exfalso; omega)
      generalize hτ : ah_wL (ah_wL (ah_fL σ 246 0 6 (iL 0)) 246 4 (iL l)) 246 5 (iL f) = τ at hf hn ⊢
      have h' : MInv τ D := h.q (hf.mono Xv_q)
      obtain ⟨⟨r1, r2⟩, e, hr1, hr2⟩ := m_law h' (k := 2) (by omega) (nm := nmP l f) (fun j _ => nmP_b ⟨by omega, by omega⟩ ⟨by omega, by omega⟩ j) 9999 (by unfold told at q; omega) hn
      rw [q_9999, e, bq_s]
      exact ⟨_, rfl, hr1, hf.trans (hr2.mono Xw_v)⟩
    · rw [if_neg q, if_pos q]
      exact ⟨_, rfl, rfl, Fr.rfl⟩
end
