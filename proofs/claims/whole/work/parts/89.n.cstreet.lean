/-! LINES OF THE CLASS: street -/
theorem ends_eq0 : ∀ x, x < 7 → ∀ y, y < 7 → ∀ a, a < 7 → ∀ b, b < 7 → (x == y || a == b || ((2 ^ x ||| 2 ^ y == 2 ^ a ||| 2 ^ b) == (x == a && y == b || x == b && y == a))) = true := by decide +kernel
theorem ends_eq {x y a b : Nat} (hx : x < 7) (hy : y < 7) (hxy : x ≠ y) (ha : a < 7) (hb : b < 7) (hab : a ≠ b) : (2 ^ x ||| 2 ^ y = 2 ^ a ||| 2 ^ b) ↔ (x = a ∧ y = b ∨ x = b ∧ y = a) := by
  have h := ends_eq0 x hx y hy a ha b hb
  rw [beq_false_of_ne hxy, beq_false_of_ne hab, Bool.false_or, Bool.false_or, beq_iff_eq] at h
  rw [← beq_iff_eq (a := 2 ^ x ||| 2 ^ y), h]
  simp
theorem ends_lt : ∀ x, x < 7 → ∀ y, y < 7 → 2 ^ x ||| 2 ^ y < 128 := by decide +kernel
section
variable {σ τ : ah_H} {T : Nat → Nat} {n N i t : Nat} {s : LnS} {E E' : DD}
theorem hst_a (hM : MT E) {a b : Nat} (ha : a < 7) (hb : b < 7) (k : Nat) : hst E (nI a) (nI b) k ↔ ∃ j, k ≤ j ∧ j < nS E ∧ (sA E j = a ∧ sB E j = b ∨ sA E j = b ∧ sB E j = a) := by
  have key : ∀ j, j < nS E → ∀ c, c < 7 → ((E 232 j = nI c) = (sA E j = c)) ∧ ((E 233 j = nI c) = (sB E j = c)) := fun j hj c hc => by
    have h1 := hM.2.2.1 j hj
    have e1 : E 232 j = nI (sA E j) := h1.1.1
    have e2 : E 233 j = nI (sB E j) := h1.2.1.1
    have l1 : sA E j ≤ 6 := h1.1.2
    have l2 : sB E j ≤ 6 := h1.2.1.2
    rw [e1, e2, eq_nI (by omega) (by omega), eq_nI (by omega) (by omega)]
    exact ⟨rfl, rfl⟩
  constructor
  · rintro ⟨j, h1, h2, h3⟩
    refine ⟨j, h1, h2, ?_⟩
    rw [(key j h2 a ha).1, (key j h2 b hb).1, (key j h2 a ha).2, (key j h2 b hb).2] at h3
    exact h3
  · rintro ⟨j, h1, h2, h3⟩
    refine ⟨j, h1, h2, ?_⟩
    rw [(key j h2 a ha).1, (key j h2 b hb).1, (key j h2 a ha).2, (key j h2 b hb).2]
    exact h3
theorem hst_no (hM : MT E) {a : Nat} (ha : a < 7) : ¬ hst E (nI a) (nI a) 0 := fun h => by
  obtain ⟨j, -, h2, h3⟩ := (hst_a hM ha ha 0).mp h
  have := (hM.2.2.1 j h2).2.2.2.2.1
  omega
theorem c_isJ (h : TR σ t E) {a b : Nat} (ha : a < 7) (hb : b < 7) (hab : a ≠ b) : f_X9_isJoined t (nI a) (nI b) σ = some (cI (hst E (nI a) (nI b) 0), σ) := by
  have hW := h.w
  have htn := h.1
  have b1 : nS E ≤ 10 := h.2.2.1.1.2.1.2
  have hS : ah_I σ t 4 = nI (nS E) := h.2.2.2.1.2.2.2.1
  have lp : ∀ m k fu, k + m = nS E → m < fu → f_X9_isJoined_2 fu t (nI a) (nI b) (nI k) σ = some (cI (hst E (nI a) (nI b) k), σ) := by
    intro m
    induction m with
    | zero =>
      intro k fu hk hf
      obtain ⟨fu, rfl⟩ : ∃ q, fu = q + 1 := ⟨fu - 1, by omega⟩
      show f_X9_isJoined_2_b _ _ _ _ _ _ = _
      unfold f_X9_isJoined_2_b
      rw [gI_t hW htn, hS, bd_s, if_pos (by rw [le_nI (by omega) (by omega)]; omega), l_0, rz_0, cI_f (fun ⟨j, h1, h2, _⟩ => by omega)]
      rfl
    | succ m ih =>
      intro k fu hk hf
      obtain ⟨fu, rfl⟩ : ∃ q, fu = q + 1 := ⟨fu - 1, by omega⟩
      have ih' := ih (k + 1) fu (by omega) (by omega)
      have hks : k < nS E := by omega
      have hM := h.2.2.1.2.2.1 k hks
      have l1 : sA E k < 7 := Nat.lt_succ_of_le hM.1.2
      have l2 : sB E k < 7 := Nat.lt_succ_of_le hM.2.1.2
      have l3 : sA E k ≠ sB E k := hM.2.2.2.2.1
      have q1 := ends_lt _ l1 _ l2
      have q2 := ends_lt _ ha _ hb
      show f_X9_isJoined_2_b _ _ _ _ _ _ = _
      unfold f_X9_isJoined_2_b
      simp only [to_bq, l_0, l_1, l_2, l_3, l_4, l_5, l_6, l_7, l_8, l_9, l_10, l_11, l_12, l_13, l_14, l_15, l_16, l_17, l_18, l_19, l_20, l_21, l_22, l_23, l_24, l_25, l_26, l_27, l_28, l_29, l_30, l_31, l_32, l_40, l_41, l_42, l_43, l_44, l_45, l_46, l_47, l_48, l_49, l_50, l_51, l_52, l_53, l_54, l_55, l_56, l_57, l_58, l_59, l_60, l_61, l_62, l_63, l_64, l_72, l_97, l_99, l_100, l_104, l_120, l_122, l_128, l_140, l_255, l_256, l_257, l_258, l_260, l_261, l_262, l_364, l_680, l_700, l_701, l_840, l_999, l_1023, l_1024, l_9999, l_10000, l_1000000, lm]
      rw [z_one (by omega), z_one (by omega), z_or, gI_t hW htn, hS]
      simp only [bq_n, bd_s, mp_s, rz_0, rz_1, bI_rz]
      rw [if_neg (by rw [le_nI (by omega) (by omega)]; omega), c_endBits h hks]
      simp only [bq_n, bd_s, mp_s, rz_0, rz_1, bI_rz]
      have split : hst E (nI a) (nI b) k ↔ (sA E k = a ∧ sB E k = b ∨ sA E k = b ∧ sB E k = a) ∨ hst E (nI a) (nI b) (k + 1) := by
        rw [hst_a h.2.2.1 ha hb, hst_a h.2.2.1 ha hb]
        constructor
        · rintro ⟨j, h1, h2, h3⟩
          by_cases z : j = k
          · subst z; exact Or.inl h3
          · exact Or.inr ⟨j, by omega, h2, h3⟩
        · rintro (h3 | ⟨j, h1, h2, h3⟩)
          · exact ⟨k, by omega, by omega, h3⟩
          · exact ⟨j, by omega, h2, h3⟩
      by_cases z : 2 ^ sA E k ||| 2 ^ sB E k = 2 ^ a ||| 2 ^ b
      · rw [if_pos (by rw [z]), cI_t (split.mpr (Or.inl ((ends_eq l1 l2 l3 ha hb hab).mp z)))]
      · rw [if_neg (by rw [eq_nI (by omega) (by omega)]; exact z), zadd, ih', cI_eq (show hst E (nI a) (nI b) k ↔ hst E (nI a) (nI b) (k + 1) from ⟨fun q => (split.mp q).resolve_left (fun y => z ((ends_eq l1 l2 l3 ha hb hab).mpr y)), fun q => split.mpr (Or.inr q)⟩)]
  unfold f_X9_isJoined f_X9_isJoined_0
  rw [ck_t hW htn]
  exact lp (nS E) 0 5000 (by omega) (by omega)
theorem c_other (h : CAt σ T n N i) (hT : TR σ t E) (hr : ah_R σ 82 2 = some t) (h10 : nS E < 10) {a : Nat} (ha : a < nC E) (hrow : ah_I σ (t + 10 + nS E) 0 = nI a) : ∃ τ, Fr (Xin (t + 10 + nS E) 1) σ τ ∧ CYo (f_X7_readOtherEnd 82 (t + 10 + nS E) σ) τ T n N (sGo (sJn E a (sCorV (tks T n) (i, none) (E 228) (nC E)) (sCorS (tks T n) (i, none) (E 228) (nC E)))) ∧ ((sGo (sJn E a (sCorV (tks T n) (i, none) (E 228) (nC E)) (sCorS (tks T n) (i, none) (E 228) (nC E)))).2 = none → ah_I τ (t + 10 + nS E) 1 = nI (sCorV (tks T n) (i, none) (E 228) (nC E))) := by
  have hW := h.w
  have htn := hT.1
  have hTt : t = 2 ∨ t = 42 := htn
  have b0 : nC E ≤ 7 := hT.2.2.1.1.1.2
  obtain ⟨σ1, a1, a2⟩ := c_cor h hT hr
  have hcv := fun z => (sCor_v (k := tks T n) (s := (i, none)) (g := E 228) b0 z).1
  have hcn := fun z => sCor_n (k := tks T n) (s := (i, none)) (g := E 228) (m := nC E) z
  have r1 : ah_R σ1 82 2 = some t := (a1.R (Or.inr (by unfold Xrn; omega))).trans hr
  have T1 := hT.rn a1
  have row1 : ah_I σ1 (t + 10 + nS E) 0 = nI a := (a1.I (by unfold Xrn; omega)).trans hrow
  generalize hV : sCorV (tks T n) (i, none) (E 228) (nC E) = V at *
  generalize hS : sCorS (tks T n) (i, none) (E 228) (nC E) = S at *
  unfold f_X7_readOtherEnd f_X7_readOtherEnd_0
  rw [ck_82 hW]
  obtain ⟨i1, _ | ⟨f, j⟩⟩ := S
  · obtain ⟨a2, a3⟩ := a2
    have W1 := a3.w
    have hVb : V < nC E := hcv rfl
    obtain ⟨-, c2, c3, -⟩ := hcn rfl
    have c2 : i1 = i := congrArg (fun x : LnS => x.1) c2
    have c3 : tS (tks T n i) = 1 := c3
    rw [a2, bd_s, if_neg (show ¬ nI V = (-1 : Int32) from nI_ne1 (by omega)), l_0, aI_srow W1 htn h10 (by omega), bd_s, row1]
    by_cases y : V = a
    · have nh : ¬ hst E (nI a) (nI V) 0 := by rw [y]; exact hst_no hT.2.2.1 (by omega)
      have eJ : sJn E a V (i1, none) = (i1, some (5, i1)) := by unfold sJn; rw [cif_f nh, if_pos y.symm]; rfl
      obtain ⟨τ, w1, w2, w3⟩ := c_fail a3 (f := 5)
      rw [if_pos (show nI V = nI a by rw [y]), show f_X7_fail 82 (5 : Int32) σ1 = some (nI 0, τ) from w1, bd_s, eJ]
      refine ⟨τ, (a1.trans w2).mono (fun a j z => Or.inl z), ⟨?_, w3⟩, fun w => nomatch w⟩
      show (op_rz (nI 0)).map _ = _
      rw [rz_0]; rfl
    · rw [if_neg (show ¬ nI V = nI a by rw [eq_nI (by omega) (by omega)]; exact y), gR_82_2 W1, r1, bd_s, bd_s, c_isJ T1 (by omega) (by omega) (fun z => y z.symm), bd_s]
      by_cases z : hst E (nI a) (nI V) 0
      · have eJ : sJn E a V (i1, none) = (i1, some (3, i1)) := by unfold sJn; rw [cif_t z]; rfl
        obtain ⟨τ, w1, w2, w3⟩ := c_fail a3 (f := 3)
        rw [if_neg (show ¬ cI (hst E (nI a) (nI V) 0) = nI 0 by rw [cI_t z]; decide), show f_X7_fail 82 (3 : Int32) σ1 = some (nI 0, τ) from w1, bd_s, eJ]
        refine ⟨τ, (a1.trans w2).mono (fun a j z => Or.inl z), ⟨?_, w3⟩, fun w => nomatch w⟩
        show (op_rz (nI 0)).map _ = _
        rw [rz_0]; rfl
      · have eJ : sJn E a V (i1, none) = (i1, none) := by unfold sJn; rw [cif_f z, if_neg (fun w => y w.symm)]
        have d3 := a3.fr (X := fun x y => x = t + 10 + nS E ∧ y = 1) (τ := ah_wI σ1 (t + 10 + nS E) 1 (nI V)) (Fr.rfl.wI ⟨rfl, rfl⟩) (fun x y z q => by omega)
        obtain ⟨τ, w1, w2, w3⟩ := c_step d3 (by rw [c2]; omega)
        rw [if_pos (show cI (hst E (nI a) (nI V) 0) = nI 0 from cI_f z), l_1, sI_srow W1 htn h10 (by omega), bd_s, gR_82_0 d3.w, bd_s, w1, bd_s, rz_1, eJ]
        refine ⟨τ, ((a1.mono (fun a j z => Or.inl z)).wI (Or.inr ⟨rfl, rfl⟩)).trans (w2.mono (fun a j z => Or.inl (Xs8_r a j z))), ⟨rfl, w3⟩, fun _ => ?_⟩
        rw [w2.I (by unfold Xs8; omega), rI_eq]
  · obtain ⟨a2, a3⟩ := a2
    have eJ : sJn E a V (i1, some (f, j)) = (i1, some (f, j)) := sJn_s (fun z => nomatch z)
    rw [a2, bd_s, if_pos (show mI 1 = (-1 : Int32) from rfl), l_0, rz_0, eJ]
    exact ⟨σ1, a1.mono (fun a j z => Or.inl z), ⟨rfl, a3⟩, fun w => nomatch w⟩
end
