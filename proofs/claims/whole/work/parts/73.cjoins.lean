/-! THE CLASS: which sets of streets are trees -/
theorem c_bits {m : Nat} (hm : m < 1024) (σ : ah_H) : f_J6_bitCount_0f7a4 (nI m) σ = some (nI (pcnt m 31), σ) := by
  unfold f_J6_bitCount_0f7a4 f_J6_bitCount_0f7a4_0
  refine congrArg (fun z => some (z, σ)) ?_
  revert hm
  revert m
  decide +kernel
theorem sm_lt {f g : Nat → Nat} {n x : Nat} (h : ∀ o, o < n → f o ≤ g o) (hx : x < n) (h1 : f x < g x) : sm f n < sm g n := by
  induction n with
  | zero => omega
  | succ n ih =>
    show sm f n + f n < sm g n + g n
    have h2 := h n (by omega)
    by_cases q : x = n
    · subst q
      have h3 : sm f x ≤ sm g x := by
        clear ih hx h1 h2
        induction x with
        | zero => exact Nat.le_refl _
        | succ x ih => 
          have := ih (fun o ho => h o (by omega))
          have := h x (by omega)
          show sm f x + f x ≤ sm g x + g x
          omega
      omega
    · have := ih (fun o ho => h o (by omega)) (by omega)
      omega
section
variable {D : DD} {m x : Nat}
theorem Uj_short (ht : MT D) (hx : x < nC D) {c : Nat} (hc : c < nC D) (h : Ujn D m x c) : Uj D m x (nC D - 1) c := by
  have stab : ∀ k, (∀ c, c < nC D → Uj D m x (k + 1) c → Uj D m x k c) → ∀ j c, c < nC D → Uj D m x (k + j) c → Uj D m x k c := by
    intro k hk j
    induction j with
    | zero => intro c _ h; exact h
    | succ j ih =>
      intro c hc h
      rcases (show Uj D m x (k + j + 1) c from h) with h | ⟨s, h1, h2, h3, h4⟩
      · exact ih c hc h
      · exact hk c hc (Or.inr ⟨s, h1, h2, h3, ih _ (ht.qoth h1) h4⟩)
  have grow : ∀ k, (∃ i, i < k ∧ ∀ c, c < nC D → Uj D m x (i + 1) c → Uj D m x i c) ∨ k + 1 ≤ sm (fun c => cif (Uj D m x k c) 1 0) (nC D) := by
    intro k
    induction k with
    | zero =>
      right
      have := sm_lt (f := fun _ => 0) (g := fun c => cif (Uj D m x 0 c) 1 0) (n := nC D) (x := x) (fun _ _ => Nat.zero_le _) hx (by show 0 < cif (Uj D m x 0 x) 1 0; rw [cif_t (show Uj D m x 0 x from rfl)]; omega)
      omega
    | succ k ih =>
      rcases ih with ⟨i, h1, h2⟩ | ih
      · exact Or.inl ⟨i, by omega, h2⟩
      · by_cases q : ∀ c, c < nC D → Uj D m x (k + 1) c → Uj D m x k c
        · exact Or.inl ⟨k, by omega, q⟩
        · right
          have hex : ∃ c, c < nC D ∧ Uj D m x (k + 1) c ∧ ¬ Uj D m x k c := by
            apply Classical.byContradiction
            intro z
            exact q (fun c h1 h2 => Classical.byContradiction fun h3 => z ⟨c, h1, h2, h3⟩)
          obtain ⟨c, h1, h2, h3⟩ := hex
          have := sm_lt (f := fun c => cif (Uj D m x k c) 1 0) (g := fun c => cif (Uj D m x (k + 1) c) 1 0) (n := nC D) (x := c) (fun o _ => by
            show cif (Uj D m x k o) 1 0 ≤ cif (Uj D m x (k + 1) o) 1 0
            by_cases z : Uj D m x k o
            · rw [cif_t z, cif_t (show Uj D m x (k + 1) o from Or.inl z)]; exact Nat.le_refl _
            · rw [cif_f z]; exact Nat.zero_le _) h1 (by
            show cif (Uj D m x k c) 1 0 < cif (Uj D m x (k + 1) c) 1 0
            rw [cif_f h3, cif_t h2]; omega)
          omega
  rcases grow (nC D - 1) with ⟨i, h1, h2⟩ | hg
  · obtain ⟨k, hk⟩ := h
    have := stab i h2 k c hc (Uj_mono hk (by omega))
    exact Uj_mono this (by omega)
  · apply Classical.byContradiction
    intro hno
    have := sm_lt (f := fun c => cif (Uj D m x (nC D - 1) c) 1 0) (g := fun _ => 1) (n := nC D) (x := c) (fun o _ => by
      show cif (Uj D m x (nC D - 1) o) 1 0 ≤ 1
      by_cases z : Uj D m x (nC D - 1) o
      · rw [cif_t z]; exact Nat.le_refl _
      · rw [cif_f z]; exact Nat.zero_le _) hc (by show cif (Uj D m x (nC D - 1) c) 1 0 < 1; rw [cif_f hno]; omega)
    rw [sm_c1] at this
    omega
end
theorem and_two {R a b : Nat} : R &&& (2 ^ a ||| 2 ^ b) = 0 ↔ ¬ R.testBit a = true ∧ ¬ R.testBit b = true := by
  constructor
  · intro h
    have key : ∀ i, (R &&& (2 ^ a ||| 2 ^ b)).testBit i = false := fun i => by rw [h]; exact Nat.zero_testBit i
    have h1 := key a
    have h2 := key b
    rw [Nat.testBit_and, Nat.testBit_or, Nat.testBit_two_pow_self] at h1
    rw [Nat.testBit_and, Nat.testBit_or, Nat.testBit_two_pow_self] at h2
    constructor
    · intro z; rw [z] at h1; simp at h1
    · intro z; rw [z] at h2; simp at h2
  · rintro ⟨h1, h2⟩
    apply Nat.eq_of_testBit_eq
    intro i
    rw [Nat.testBit_and, Nat.testBit_or, Nat.testBit_two_pow, Nat.testBit_two_pow, Nat.zero_testBit]
    by_cases q1 : a = i
    · subst q1
      rw [show R.testBit a = false by simpa using h1]; rfl
    · by_cases q2 : b = i
      · subst q2
        rw [show R.testBit b = false by simpa using h2]; rfl
      · simp [q1, q2]
section
variable {σ : ah_H} {t : Nat} {D : DD} {m : Nat}
theorem c_endBits (h : TR σ t D) {s : Nat} (hs : s < nS D) : f_X9_endBits t (nI s) σ = some (nI (2 ^ sA D s ||| 2 ^ sB D s), σ) := by
  have hW := h.w
  have htn := h.tn
  have b1 := h.t.qs10
  have b2 := h.t.qc7
  have b3 := h.t.qsAc hs
  have b4 := h.t.qsBc hs
  unfold f_X9_endBits f_X9_endBits_0
  simp only [to_bq, l_0, l_1, l_2, l_3, l_4, l_5, l_6, l_7, l_8, l_9, l_10, l_11, l_12, l_13, l_14, l_15, l_16, l_17, l_18, l_19, l_20, l_21, l_22, l_23, l_24, l_25, l_26, l_27, l_28, l_29, l_30, l_31, l_32, l_40, l_41, l_42, l_43, l_44, l_45, l_46, l_47, l_48, l_49, l_50, l_51, l_52, l_53, l_54, l_55, l_56, l_57, l_58, l_59, l_60, l_61, l_62, l_63, l_64, l_72, l_97, l_99, l_100, l_104, l_120, l_122, l_128, l_140, l_255, l_256, l_257, l_258, l_260, l_261, l_262, l_364, l_680, l_700, l_701, l_840, l_999, l_1023, l_1024, l_9999, l_10000, l_1000000, lm]
  simp (disch := first | (with_reducible assumption) | omega | exact ⟨by omega, by omega⟩ | ((with_reducible first | apply Wf.wI | apply Wf.wL | apply Wf.fL | apply Wf.fI | apply Wf.fr); (repeat (with_reducible first | assumption | apply Wf.wI | apply Wf.wL | apply Wf.fL | apply Wf.fI | apply Wf.fr)))) only [ck_t, gI_t, gL_t, pI_t, pZ0_t, pZ1_t, pL_t, ck_w, gI_w, gL_w, pI_w, pZ0_w, pZ1_w, pL_w, gR_t_1, gR_t_5, gR_t_7, gR_t_9, gR_t_10, gR_t_11, gR_t_12, gR_t_15, gR_w_2, gR_w_3, gR_w_4, gR_w_5, gR_w_6, gR_w_7, aR_crow, aR_srow, aR_prow, aR_rrow, aI_crow, sI_crow, len_crow, aI_srow, sI_srow, len_srow, aI_prow, sI_prow, len_prow, aI_rrow, sI_rrow, len_rrow, aI_t25, sI_t25, len_t25, aI_t31, sI_t31, len_t31, aI_t32, sI_t32, len_t32, aI_t34, sI_t34, len_t34, aI_t35, sI_t35, len_t35, aI_t36, sI_t36, len_t36, aI_t37, sI_t37, len_t37, aL_t38, sL_t38, len_t38, aL_t39, sL_t39, len_t39, bq_n, bd_s, mp_s, rz_0, rz_1, bI_rz, tr_sA h hs, tr_sB h hs, z_one (show sA D s < 31 by omega), z_one (show sB D s < 31 by omega), z_or]
/-- corners reached, after some rounds and some streets of a round -/
def JR (D : DD) (m s k R : Nat) : Prop := R < 2 ^ nC D ∧ (∀ o, R.testBit o = true → o < nC D ∧ Ujn D m 0 o) ∧ (∀ o, o < nC D → Uj D m 0 s o → R.testBit o = true) ∧ ∀ i, i < k → m.testBit i = true → ∀ o, o < nC D → tch D i o → Uj D m 0 s (oth D i o) → R.testBit o = true
theorem JR.init (h0 : 0 < nC D) : JR D m 0 0 1 := by
  have h1 : 1 < 2 ^ nC D := Nat.one_lt_two_pow (by omega)
  have hb : ∀ o, (1 : Nat).testBit o = true ↔ o = 0 := fun o => by
    cases o with
    | zero => exact ⟨fun _ => rfl, fun _ => rfl⟩
    | succ o => rw [Nat.testBit_succ]; simp
  refine ⟨h1, fun o ho => ?_, fun o _ ho => ?_, fun i hi => by omega⟩
  · rw [(hb o).mp ho]; exact ⟨h0, 0, rfl⟩
  · exact (hb o).mpr ho
theorem JR.round (ht : MT D) {s R : Nat} (h : JR D m s (nS D) R) : JR D m (s + 1) 0 R := by
  refine ⟨h.1, h.2.1, fun o ho hu => ?_, fun i hi => by omega⟩
  rcases hu with hu | ⟨i, h1, h2, h3, h4⟩
  · exact h.2.2.1 o ho hu
  · exact h.2.2.2 i h1 h2 o ho h3 h4
theorem JR.stay {s k R : Nat} (h : JR D m s k R) (hx : m.testBit k = true → ∀ o, o < nC D → tch D k o → Uj D m 0 s (oth D k o) → R.testBit o = true) : JR D m s (k + 1) R := by
  refine ⟨h.1, h.2.1, h.2.2.1, fun i hi hm o ho h3 h4 => ?_⟩
  by_cases q : i = k
  · subst q; exact hx hm o ho h3 h4
  · exact h.2.2.2 i (by omega) hm o ho h3 h4
theorem JR.add (ht : MT D) {s k R : Nat} (h : JR D m s k R) (hk : k < nS D) (hm : m.testBit k = true) (hr : R.testBit (sA D k) = true ∨ R.testBit (sB D k) = true) : JR D m s (k + 1) (R ||| (2 ^ sA D k ||| 2 ^ sB D k)) := by
  have ha := ht.qsAc hk
  have hb := ht.qsBc hk
  have hbit : ∀ o, (R ||| (2 ^ sA D k ||| 2 ^ sB D k)).testBit o = true ↔ R.testBit o = true ∨ o = sA D k ∨ o = sB D k := fun o => by
    rw [← Nat.or_assoc, tb_set, tb_set, or_assoc]
  have hab : Ujn D m 0 (sA D k) ∧ Ujn D m 0 (sB D k) := by
    rcases hr with hr | hr
    · have h1 := (h.2.1 _ hr).2
      refine ⟨h1, Ujn_step hk hm (Or.inr rfl) ?_⟩
      unfold oth
      rw [if_neg (ht.qsAB hk)]; exact h1
    · have h1 := (h.2.1 _ hr).2
      refine ⟨Ujn_step hk hm (Or.inl rfl) ?_, h1⟩
      unfold oth
      rw [if_pos rfl]; exact h1
  refine ⟨or_b h.1 (or_b (pw_b ha) (pw_b hb)), fun o ho => ?_, fun o ho hu => (hbit o).mpr (Or.inl (h.2.2.1 o ho hu)), fun i hi hmi o ho h3 h4 => ?_⟩
  · rcases (hbit o).mp ho with z | z | z
    · exact h.2.1 o z
    · rw [z]; exact ⟨ha, hab.1⟩
    · rw [z]; exact ⟨hb, hab.2⟩
  · by_cases q : i = k
    · subst q
      refine (hbit o).mpr (Or.inr ?_)
      rcases h3 with z | z
      · exact Or.inl z.symm
      · exact Or.inr z.symm
    · exact (hbit o).mpr (Or.inl (h.2.2.2 i (by omega) hmi o ho h3 h4))
theorem c_ja46 {K32 : Nat → Int32 → Int32 → Int32 → ah_H → Option (Int32 × ah_H)} (h : TR σ t D) (hp : ah_R σ 160 6 = some t) (hm : m < 1024) {s : Nat} (x3 : Nat) : ∀ i k fu R, k + i = nS D → i < fu → JR D m s k R → ∃ R', f_X10_joinsAll_46 K32 fu 160 (nI m) (nI R) (nI x3) (nI k) σ = K32 160 (nI m) (nI R') (nI (x3 + 1)) σ ∧ JR D m (s + 1) 0 R' := by
  have hW := h.w
  have htn := h.tn
  have b1 := h.t.qs10
  have b2 := h.t.qc7
  intro i
  induction i with
  | zero =>
    intro k fu R hk hf hj
    obtain ⟨fu, rfl⟩ : ∃ q, fu = q + 1 := ⟨fu - 1, by omega⟩
    refine ⟨R, ?_, by rw [show k = nS D by omega] at hj; exact hj.round h.t⟩
    show f_X10_joinsAll_46_b _ _ _ _ _ _ _ _ = _
    unfold f_X10_joinsAll_46_b f_X10_joinsAll_96
    simp only [to_bq, l_0, l_1, l_2, l_3, l_4, l_5, l_6, l_7, l_8, l_9, l_10, l_11, l_12, l_13, l_14, l_15, l_16, l_17, l_18, l_19, l_20, l_21, l_22, l_23, l_24, l_25, l_26, l_27, l_28, l_29, l_30, l_31, l_32, l_40, l_41, l_42, l_43, l_44, l_45, l_46, l_47, l_48, l_49, l_50, l_51, l_52, l_53, l_54, l_55, l_56, l_57, l_58, l_59, l_60, l_61, l_62, l_63, l_64, l_72, l_97, l_99, l_100, l_104, l_120, l_122, l_128, l_140, l_255, l_256, l_257, l_258, l_260, l_261, l_262, l_364, l_680, l_700, l_701, l_840, l_999, l_1023, l_1024, l_9999, l_10000, l_1000000, lm]
    simp (disch := first | (with_reducible assumption) | omega | exact ⟨by omega, by omega⟩ | ((with_reducible first | apply Wf.wI | apply Wf.wL | apply Wf.fL | apply Wf.fI | apply Wf.fr); (repeat (with_reducible first | assumption | apply Wf.wI | apply Wf.wL | apply Wf.fL | apply Wf.fI | apply Wf.fr)))) only [ck_160, gI_160, gL_160, pI_160, pZ0_160, pZ1_160, pL_160, gR_160_3, gR_160_4, gR_160_5, pR_160_6, gR_160_6, ck_t, gI_t, gL_t, pI_t, pZ0_t, pZ1_t, pL_t, ck_w, gI_w, gL_w, pI_w, pZ0_w, pZ1_w, pL_w, gR_t_1, gR_t_5, gR_t_7, gR_t_9, gR_t_10, gR_t_11, gR_t_12, gR_t_15, gR_w_2, gR_w_3, gR_w_4, gR_w_5, gR_w_6, gR_w_7, aR_crow, aR_srow, aR_prow, aR_rrow, aI_crow, sI_crow, len_crow, aI_srow, sI_srow, len_srow, aI_prow, sI_prow, len_prow, aI_rrow, sI_rrow, len_rrow, aI_t25, sI_t25, len_t25, aI_t31, sI_t31, len_t31, aI_t32, sI_t32, len_t32, aI_t34, sI_t34, len_t34, aI_t35, sI_t35, len_t35, aI_t36, sI_t36, len_t36, aI_t37, sI_t37, len_t37, aL_t38, sL_t38, len_t38, aL_t39, sL_t39, len_t39, bq_n, bd_s, mp_s, rz_0, rz_1, bI_rz, zadd, zmul, zsub, le_nI, lt_nI, eq_nI, neg_nI, gen_nI, neg_lt, neg_le, neg_lt', neg_le', nI_lt0, if_true, if_false, ite_true, ite_false, reduceIte, not_true, not_false, and_true, true_and, and_false, false_and, or_true, true_or, or_false, false_or, eq_self, hp, tr_S h, show (nS D ≤ k) = True from eq_true (by omega)]
  | succ i ih =>
    intro k fu R hk hf hj
    obtain ⟨fu, rfl⟩ : ∃ q, fu = q + 1 := ⟨fu - 1, by omega⟩
    have hks : k < nS D := by omega
    have hA := h.t.qsAc hks
    have hB := h.t.qsBc hks
    have hR : R < 1024 := Nat.lt_of_lt_of_le hj.1 (Nat.le_trans (Nat.pow_le_pow_right (by omega) b2) (by decide))
    have go : ∀ R', JR D m s (k + 1) R' → f_X10_joinsAll_46 K32 (fu + 1) 160 (nI m) (nI R) (nI x3) (nI k) σ = f_X10_joinsAll_46 K32 fu 160 (nI m) (nI R') (nI x3) (nI (k + 1)) σ → ∃ R', f_X10_joinsAll_46 K32 (fu + 1) 160 (nI m) (nI R) (nI x3) (nI k) σ = K32 160 (nI m) (nI R') (nI (x3 + 1)) σ ∧ JR D m (s + 1) 0 R' := by
      intro R' h1 h2
      rw [h2]
      exact ih (k + 1) fu R' (by omega) (by omega) h1
    by_cases q1 : m.testBit k = true
    · by_cases q2 : R &&& (2 ^ sA D k ||| 2 ^ sB D k) = 0
      · refine go R (hj.stay (fun _ o ho h3 h4 => ?_)) ?_
        · exfalso
          have h5 := hj.2.2.1 _ (h.t.qoth hks) h4
          obtain ⟨z1, z2⟩ := and_two.mp q2
          unfold oth at h5
          by_cases z : sA D k = o
          · rw [if_pos z] at h5; exact z2 h5
          · rw [if_neg z] at h5; exact z1 h5
        · show f_X10_joinsAll_46_b _ _ _ _ _ _ _ _ = _
          unfold f_X10_joinsAll_46_b f_X10_joinsAll_90
          simp only [to_bq, l_0, l_1, l_2, l_3, l_4, l_5, l_6, l_7, l_8, l_9, l_10, l_11, l_12, l_13, l_14, l_15, l_16, l_17, l_18, l_19, l_20, l_21, l_22, l_23, l_24, l_25, l_26, l_27, l_28, l_29, l_30, l_31, l_32, l_40, l_41, l_42, l_43, l_44, l_45, l_46, l_47, l_48, l_49, l_50, l_51, l_52, l_53, l_54, l_55, l_56, l_57, l_58, l_59, l_60, l_61, l_62, l_63, l_64, l_72, l_97, l_99, l_100, l_104, l_120, l_122, l_128, l_140, l_255, l_256, l_257, l_258, l_260, l_261, l_262, l_364, l_680, l_700, l_701, l_840, l_999, l_1023, l_1024, l_9999, l_10000, l_1000000, lm]
          simp (disch := first | (with_reducible assumption) | omega | exact ⟨by omega, by omega⟩ | ((with_reducible first | apply Wf.wI | apply Wf.wL | apply Wf.fL | apply Wf.fI | apply Wf.fr); (repeat (with_reducible first | assumption | apply Wf.wI | apply Wf.wL | apply Wf.fL | apply Wf.fI | apply Wf.fr)))) only [ck_160, gI_160, gL_160, pI_160, pZ0_160, pZ1_160, pL_160, gR_160_3, gR_160_4, gR_160_5, pR_160_6, gR_160_6, ck_t, gI_t, gL_t, pI_t, pZ0_t, pZ1_t, pL_t, ck_w, gI_w, gL_w, pI_w, pZ0_w, pZ1_w, pL_w, gR_t_1, gR_t_5, gR_t_7, gR_t_9, gR_t_10, gR_t_11, gR_t_12, gR_t_15, gR_w_2, gR_w_3, gR_w_4, gR_w_5, gR_w_6, gR_w_7, aR_crow, aR_srow, aR_prow, aR_rrow, aI_crow, sI_crow, len_crow, aI_srow, sI_srow, len_srow, aI_prow, sI_prow, len_prow, aI_rrow, sI_rrow, len_rrow, aI_t25, sI_t25, len_t25, aI_t31, sI_t31, len_t31, aI_t32, sI_t32, len_t32, aI_t34, sI_t34, len_t34, aI_t35, sI_t35, len_t35, aI_t36, sI_t36, len_t36, aI_t37, sI_t37, len_t37, aL_t38, sL_t38, len_t38, aL_t39, sL_t39, len_t39, bq_n, bd_s, mp_s, rz_0, rz_1, bI_rz, zadd, zmul, zsub, le_nI, lt_nI, eq_nI, neg_nI, gen_nI, neg_lt, neg_le, neg_lt', neg_le', nI_lt0, if_true, if_false, ite_true, ite_false, reduceIte, not_true, not_false, and_true, true_and, and_false, false_and, or_true, true_or, or_false, false_or, eq_self, hp, tr_S h, show (nS D ≤ k) = False from eq_false (by omega), c_endBits h hks, z_bit (show m < 2147483648 by omega) (show k < 31 by omega), q1, show nI R &&& nI (2 ^ sA D k ||| 2 ^ sB D k) = nI 0 by rw [z_and, q2]]
      · refine go (R ||| (2 ^ sA D k ||| 2 ^ sB D k)) (hj.add h.t hks q1 ?_) ?_
        · apply Classical.byContradiction
          intro z
          exact q2 (and_two.mpr ⟨fun w => z (Or.inl w), fun w => z (Or.inr w)⟩)
        · have hlt : R &&& (2 ^ sA D k ||| 2 ^ sB D k) < 2147483648 := Nat.lt_of_le_of_lt Nat.and_le_left (by omega)
          have e0 : (nI R &&& nI (2 ^ sA D k ||| 2 ^ sB D k) = nI 0) = False := by
            rw [z_and, eq_nI hlt (by omega)]; exact eq_false q2
          show f_X10_joinsAll_46_b _ _ _ _ _ _ _ _ = _
          unfold f_X10_joinsAll_46_b f_X10_joinsAll_90
          simp only [to_bq, l_0, l_1, l_2, l_3, l_4, l_5, l_6, l_7, l_8, l_9, l_10, l_11, l_12, l_13, l_14, l_15, l_16, l_17, l_18, l_19, l_20, l_21, l_22, l_23, l_24, l_25, l_26, l_27, l_28, l_29, l_30, l_31, l_32, l_40, l_41, l_42, l_43, l_44, l_45, l_46, l_47, l_48, l_49, l_50, l_51, l_52, l_53, l_54, l_55, l_56, l_57, l_58, l_59, l_60, l_61, l_62, l_63, l_64, l_72, l_97, l_99, l_100, l_104, l_120, l_122, l_128, l_140, l_255, l_256, l_257, l_258, l_260, l_261, l_262, l_364, l_680, l_700, l_701, l_840, l_999, l_1023, l_1024, l_9999, l_10000, l_1000000, lm]
          simp (disch := first | (with_reducible assumption) | omega | exact ⟨by omega, by omega⟩ | ((with_reducible first | apply Wf.wI | apply Wf.wL | apply Wf.fL | apply Wf.fI | apply Wf.fr); (repeat (with_reducible first | assumption | apply Wf.wI | apply Wf.wL | apply Wf.fL | apply Wf.fI | apply Wf.fr)))) only [ck_160, gI_160, gL_160, pI_160, pZ0_160, pZ1_160, pL_160, gR_160_3, gR_160_4, gR_160_5, pR_160_6, gR_160_6, ck_t, gI_t, gL_t, pI_t, pZ0_t, pZ1_t, pL_t, ck_w, gI_w, gL_w, pI_w, pZ0_w, pZ1_w, pL_w, gR_t_1, gR_t_5, gR_t_7, gR_t_9, gR_t_10, gR_t_11, gR_t_12, gR_t_15, gR_w_2, gR_w_3, gR_w_4, gR_w_5, gR_w_6, gR_w_7, aR_crow, aR_srow, aR_prow, aR_rrow, aI_crow, sI_crow, len_crow, aI_srow, sI_srow, len_srow, aI_prow, sI_prow, len_prow, aI_rrow, sI_rrow, len_rrow, aI_t25, sI_t25, len_t25, aI_t31, sI_t31, len_t31, aI_t32, sI_t32, len_t32, aI_t34, sI_t34, len_t34, aI_t35, sI_t35, len_t35, aI_t36, sI_t36, len_t36, aI_t37, sI_t37, len_t37, aL_t38, sL_t38, len_t38, aL_t39, sL_t39, len_t39, bq_n, bd_s, mp_s, rz_0, rz_1, bI_rz, zadd, zmul, zsub, le_nI, lt_nI, eq_nI, neg_nI, gen_nI, neg_lt, neg_le, neg_lt', neg_le', nI_lt0, if_true, if_false, ite_true, ite_false, reduceIte, not_true, not_false, and_true, true_and, and_false, false_and, or_true, true_or, or_false, false_or, eq_self, hp, tr_S h, show (nS D ≤ k) = False from eq_false (by omega), c_endBits h hks, z_bit (show m < 2147483648 by omega) (show k < 31 by omega), q1, e0, z_or]
    · refine go R (hj.stay (fun z => absurd z q1)) ?_
      show f_X10_joinsAll_46_b _ _ _ _ _ _ _ _ = _
      unfold f_X10_joinsAll_46_b f_X10_joinsAll_90
      simp only [to_bq, l_0, l_1, l_2, l_3, l_4, l_5, l_6, l_7, l_8, l_9, l_10, l_11, l_12, l_13, l_14, l_15, l_16, l_17, l_18, l_19, l_20, l_21, l_22, l_23, l_24, l_25, l_26, l_27, l_28, l_29, l_30, l_31, l_32, l_40, l_41, l_42, l_43, l_44, l_45, l_46, l_47, l_48, l_49, l_50, l_51, l_52, l_53, l_54, l_55, l_56, l_57, l_58, l_59, l_60, l_61, l_62, l_63, l_64, l_72, l_97, l_99, l_100, l_104, l_120, l_122, l_128, l_140, l_255, l_256, l_257, l_258, l_260, l_261, l_262, l_364, l_680, l_700, l_701, l_840, l_999, l_1023, l_1024, l_9999, l_10000, l_1000000, lm]
      simp (disch := first | (with_reducible assumption) | omega | exact ⟨by omega, by omega⟩ | ((with_reducible first | apply Wf.wI | apply Wf.wL | apply Wf.fL | apply Wf.fI | apply Wf.fr); (repeat (with_reducible first | assumption | apply Wf.wI | apply Wf.wL | apply Wf.fL | apply Wf.fI | apply Wf.fr)))) only [ck_160, gI_160, gL_160, pI_160, pZ0_160, pZ1_160, pL_160, gR_160_3, gR_160_4, gR_160_5, pR_160_6, gR_160_6, ck_t, gI_t, gL_t, pI_t, pZ0_t, pZ1_t, pL_t, ck_w, gI_w, gL_w, pI_w, pZ0_w, pZ1_w, pL_w, gR_t_1, gR_t_5, gR_t_7, gR_t_9, gR_t_10, gR_t_11, gR_t_12, gR_t_15, gR_w_2, gR_w_3, gR_w_4, gR_w_5, gR_w_6, gR_w_7, aR_crow, aR_srow, aR_prow, aR_rrow, aI_crow, sI_crow, len_crow, aI_srow, sI_srow, len_srow, aI_prow, sI_prow, len_prow, aI_rrow, sI_rrow, len_rrow, aI_t25, sI_t25, len_t25, aI_t31, sI_t31, len_t31, aI_t32, sI_t32, len_t32, aI_t34, sI_t34, len_t34, aI_t35, sI_t35, len_t35, aI_t36, sI_t36, len_t36, aI_t37, sI_t37, len_t37, aL_t38, sL_t38, len_t38, aL_t39, sL_t39, len_t39, bq_n, bd_s, mp_s, rz_0, rz_1, bI_rz, zadd, zmul, zsub, le_nI, lt_nI, eq_nI, neg_nI, gen_nI, neg_lt, neg_le, neg_lt', neg_le', nI_lt0, if_true, if_false, ite_true, ite_false, reduceIte, not_true, not_false, and_true, true_and, and_false, false_and, or_true, true_or, or_false, false_or, eq_self, hp, tr_S h, show (nS D ≤ k) = False from eq_false (by omega), c_endBits h hks, z_bit (show m < 2147483648 by omega) (show k < 31 by omega)]
      rw [if_pos q1]
theorem c_ja32 (h : TR σ t D) (hp : ah_R σ 160 6 = some t) (hm : m < 1024) (h0 : 0 < nC D) : ∀ i k fu R, k + i = nC D → 1 ≤ k → i < fu → JR D m (k - 1) 0 R → f_X10_joinsAll_32 fu 160 (nI m) (nI R) (nI k) σ = some (cI (∀ c, c < nC D → Ujn D m 0 c), σ) := by
  have hW := h.w
  have htn := h.tn
  have b1 := h.t.qs10
  have b2 := h.t.qc7
  intro i
  induction i with
  | zero =>
    intro k fu R hk h1 hf hj
    obtain ⟨fu, rfl⟩ : ∃ q, fu = q + 1 := ⟨fu - 1, by omega⟩
    have hR : R < 1024 := Nat.lt_of_lt_of_le hj.1 (Nat.le_trans (Nat.pow_le_pow_right (by omega) b2) (by decide))
    have h2 : 2 ^ nC D ≤ 1024 := Nat.le_trans (Nat.pow_le_pow_right (by omega) b2) (by decide)
    have h3 : 1 ≤ 2 ^ nC D := Nat.one_le_two_pow
    show f_X10_joinsAll_32_b _ _ _ _ _ _ = _
    unfold f_X10_joinsAll_32_b f_X10_joinsAll_102
    simp only [to_bq, l_0, l_1, l_2, l_3, l_4, l_5, l_6, l_7, l_8, l_9, l_10, l_11, l_12, l_13, l_14, l_15, l_16, l_17, l_18, l_19, l_20, l_21, l_22, l_23, l_24, l_25, l_26, l_27, l_28, l_29, l_30, l_31, l_32, l_40, l_41, l_42, l_43, l_44, l_45, l_46, l_47, l_48, l_49, l_50, l_51, l_52, l_53, l_54, l_55, l_56, l_57, l_58, l_59, l_60, l_61, l_62, l_63, l_64, l_72, l_97, l_99, l_100, l_104, l_120, l_122, l_128, l_140, l_255, l_256, l_257, l_258, l_260, l_261, l_262, l_364, l_680, l_700, l_701, l_840, l_999, l_1023, l_1024, l_9999, l_10000, l_1000000, lm]
    simp (disch := first | (with_reducible assumption) | omega | exact ⟨by omega, by omega⟩ | ((with_reducible first | apply Wf.wI | apply Wf.wL | apply Wf.fL | apply Wf.fI | apply Wf.fr); (repeat (with_reducible first | assumption | apply Wf.wI | apply Wf.wL | apply Wf.fL | apply Wf.fI | apply Wf.fr)))) only [ck_160, gI_160, gL_160, pI_160, pZ0_160, pZ1_160, pL_160, gR_160_3, gR_160_4, gR_160_5, pR_160_6, gR_160_6, ck_t, gI_t, gL_t, pI_t, pZ0_t, pZ1_t, pL_t, ck_w, gI_w, gL_w, pI_w, pZ0_w, pZ1_w, pL_w, gR_t_1, gR_t_5, gR_t_7, gR_t_9, gR_t_10, gR_t_11, gR_t_12, gR_t_15, gR_w_2, gR_w_3, gR_w_4, gR_w_5, gR_w_6, gR_w_7, aR_crow, aR_srow, aR_prow, aR_rrow, aI_crow, sI_crow, len_crow, aI_srow, sI_srow, len_srow, aI_prow, sI_prow, len_prow, aI_rrow, sI_rrow, len_rrow, aI_t25, sI_t25, len_t25, aI_t31, sI_t31, len_t31, aI_t32, sI_t32, len_t32, aI_t34, sI_t34, len_t34, aI_t35, sI_t35, len_t35, aI_t36, sI_t36, len_t36, aI_t37, sI_t37, len_t37, aL_t38, sL_t38, len_t38, aL_t39, sL_t39, len_t39, bq_n, bd_s, mp_s, rz_0, rz_1, bI_rz, zadd, zmul, zsub, le_nI, lt_nI, eq_nI, neg_nI, gen_nI, neg_lt, neg_le, neg_lt', neg_le', nI_lt0, if_true, if_false, ite_true, ite_false, reduceIte, not_true, not_false, and_true, true_and, and_false, false_and, or_true, true_or, or_false, false_or, eq_self, hp, tr_C h, show (nC D ≤ k) = True from eq_true (by omega), z_one (show nC D < 31 by omega), zsub h3]
    have key : R = 2 ^ nC D - 1 ↔ ∀ c, c < nC D → Ujn D m 0 c := by
      rw [full_iff hj.1]
      constructor
      · intro z c hc; exact (hj.2.1 c (z c hc)).2
      · intro z c hc
        refine hj.2.2.1 c hc ?_
        rw [show k - 1 = nC D - 1 by omega]
        exact Uj_short h.t h0 hc (z c hc)
    by_cases q : R = 2 ^ nC D - 1
    · rw [if_pos q, cI_t (key.mp q)]
    · rw [if_neg q, cI_f (fun z => q (key.mpr z))]
  | succ i ih =>
    intro k fu R hk h1 hf hj
    obtain ⟨fu, rfl⟩ : ∃ q, fu = q + 1 := ⟨fu - 1, by omega⟩
    obtain ⟨R', e1, e2⟩ := c_ja46 (K32 := f_X10_joinsAll_32 fu) h hp hm k (nS D) 0 5000 R (by omega) (by omega) hj
    have he : f_X10_joinsAll_32 (fu + 1) 160 (nI m) (nI R) (nI k) σ = f_X10_joinsAll_46 (f_X10_joinsAll_32 fu) 5000 160 (nI m) (nI R) (nI k) (nI 0) σ := by
      show f_X10_joinsAll_32_b _ _ _ _ _ _ = _
      unfold f_X10_joinsAll_32_b
      simp only [to_bq, l_0, l_1, l_2, l_3, l_4, l_5, l_6, l_7, l_8, l_9, l_10, l_11, l_12, l_13, l_14, l_15, l_16, l_17, l_18, l_19, l_20, l_21, l_22, l_23, l_24, l_25, l_26, l_27, l_28, l_29, l_30, l_31, l_32, l_40, l_41, l_42, l_43, l_44, l_45, l_46, l_47, l_48, l_49, l_50, l_51, l_52, l_53, l_54, l_55, l_56, l_57, l_58, l_59, l_60, l_61, l_62, l_63, l_64, l_72, l_97, l_99, l_100, l_104, l_120, l_122, l_128, l_140, l_255, l_256, l_257, l_258, l_260, l_261, l_262, l_364, l_680, l_700, l_701, l_840, l_999, l_1023, l_1024, l_9999, l_10000, l_1000000, lm]
      simp (disch := first | (with_reducible assumption) | omega | exact ⟨by omega, by omega⟩ | ((with_reducible first | apply Wf.wI | apply Wf.wL | apply Wf.fL | apply Wf.fI | apply Wf.fr); (repeat (with_reducible first | assumption | apply Wf.wI | apply Wf.wL | apply Wf.fL | apply Wf.fI | apply Wf.fr)))) only [ck_160, gI_160, gL_160, pI_160, pZ0_160, pZ1_160, pL_160, gR_160_3, gR_160_4, gR_160_5, pR_160_6, gR_160_6, ck_t, gI_t, gL_t, pI_t, pZ0_t, pZ1_t, pL_t, ck_w, gI_w, gL_w, pI_w, pZ0_w, pZ1_w, pL_w, gR_t_1, gR_t_5, gR_t_7, gR_t_9, gR_t_10, gR_t_11, gR_t_12, gR_t_15, gR_w_2, gR_w_3, gR_w_4, gR_w_5, gR_w_6, gR_w_7, aR_crow, aR_srow, aR_prow, aR_rrow, aI_crow, sI_crow, len_crow, aI_srow, sI_srow, len_srow, aI_prow, sI_prow, len_prow, aI_rrow, sI_rrow, len_rrow, aI_t25, sI_t25, len_t25, aI_t31, sI_t31, len_t31, aI_t32, sI_t32, len_t32, aI_t34, sI_t34, len_t34, aI_t35, sI_t35, len_t35, aI_t36, sI_t36, len_t36, aI_t37, sI_t37, len_t37, aL_t38, sL_t38, len_t38, aL_t39, sL_t39, len_t39, bq_n, bd_s, mp_s, rz_0, rz_1, bI_rz, zadd, zmul, zsub, le_nI, lt_nI, eq_nI, neg_nI, gen_nI, neg_lt, neg_le, neg_lt', neg_le', nI_lt0, if_true, if_false, ite_true, ite_false, reduceIte, not_true, not_false, and_true, true_and, and_false, false_and, or_true, true_or, or_false, false_or, eq_self, hp, tr_C h, show (nC D ≤ k) = False from eq_false (by omega)]
    rw [he, e1]
    exact ih (k + 1) fu R' (by omega) (by omega) (by omega) (by rw [show k + 1 - 1 = k - 1 + 1 by omega]; exact e2)
theorem c_joinsAll (h : TR σ t D) (hp : ah_R σ 160 6 = some t) (hm : m < 2 ^ nS D) : f_X10_joinsAll 160 (nI m) σ = some (cI (TrQ D m), σ) := by
  have hW := h.w
  have htn := h.tn
  have b2 := h.t.qc7
  have h2 := p2S h.t
  have hpc := pcnt_le m 31
  unfold f_X10_joinsAll f_X10_joinsAll_0
  simp only [to_bq, l_0, l_1, l_2, l_3, l_4, l_5, l_6, l_7, l_8, l_9, l_10, l_11, l_12, l_13, l_14, l_15, l_16, l_17, l_18, l_19, l_20, l_21, l_22, l_23, l_24, l_25, l_26, l_27, l_28, l_29, l_30, l_31, l_32, l_40, l_41, l_42, l_43, l_44, l_45, l_46, l_47, l_48, l_49, l_50, l_51, l_52, l_53, l_54, l_55, l_56, l_57, l_58, l_59, l_60, l_61, l_62, l_63, l_64, l_72, l_97, l_99, l_100, l_104, l_120, l_122, l_128, l_140, l_255, l_256, l_257, l_258, l_260, l_261, l_262, l_364, l_680, l_700, l_701, l_840, l_999, l_1023, l_1024, l_9999, l_10000, l_1000000, lm]
  simp (disch := first | (with_reducible assumption) | omega | exact ⟨by omega, by omega⟩ | ((with_reducible first | apply Wf.wI | apply Wf.wL | apply Wf.fL | apply Wf.fI | apply Wf.fr); (repeat (with_reducible first | assumption | apply Wf.wI | apply Wf.wL | apply Wf.fL | apply Wf.fI | apply Wf.fr)))) only [ck_160, gI_160, gL_160, pI_160, pZ0_160, pZ1_160, pL_160, gR_160_3, gR_160_4, gR_160_5, pR_160_6, gR_160_6, ck_t, gI_t, gL_t, pI_t, pZ0_t, pZ1_t, pL_t, ck_w, gI_w, gL_w, pI_w, pZ0_w, pZ1_w, pL_w, gR_t_1, gR_t_5, gR_t_7, gR_t_9, gR_t_10, gR_t_11, gR_t_12, gR_t_15, gR_w_2, gR_w_3, gR_w_4, gR_w_5, gR_w_6, gR_w_7, aR_crow, aR_srow, aR_prow, aR_rrow, aI_crow, sI_crow, len_crow, aI_srow, sI_srow, len_srow, aI_prow, sI_prow, len_prow, aI_rrow, sI_rrow, len_rrow, aI_t25, sI_t25, len_t25, aI_t31, sI_t31, len_t31, aI_t32, sI_t32, len_t32, aI_t34, sI_t34, len_t34, aI_t35, sI_t35, len_t35, aI_t36, sI_t36, len_t36, aI_t37, sI_t37, len_t37, aL_t38, sL_t38, len_t38, aL_t39, sL_t39, len_t39, bq_n, bd_s, mp_s, rz_0, rz_1, bI_rz, hp, tr_C h, c_bits (show m < 1024 by omega)]
  by_cases q0 : nC D = 0
  · rw [if_pos (by rw [q0]), cI_f (fun z => by have := z.2.1; omega)]
  rw [if_neg (by rw [eq_nI (by omega) (by omega)]; exact q0), zsub (by omega)]
  by_cases q1 : pcnt m 31 + 1 = nC D
  · rw [if_pos (by rw [show pcnt m 31 = nC D - 1 by omega]), c_ja32 h hp (by omega) (by omega) (nC D - 1) 1 5000 1 (by omega) (by omega) (by omega) (JR.init (by omega))]
    congr 2
    exact cI_eq ⟨fun z => ⟨hm, q1, z⟩, fun z => z.2.2⟩
  · rw [if_neg (by rw [eq_nI (by omega) (by omega)]; omega), cI_f (fun z => q1 z.2.1)]
end
