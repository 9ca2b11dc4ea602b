/-! LAWS: what they are worth, and the reference's work on them -/
abbrev LB1 (z : Int) : Prop := -1000000000000 ≤ z ∧ z ≤ 1000000000000
def chk (z : Int) : Option Int := if LB1 z then some z else none
def b2 (p : Prop) [Decidable p] : Int := if p then 1 else 0
theorem b2_b (p : Prop) [Decidable p] : LB1 (b2 p) := by unfold b2; split <;> exact ⟨by omega, by omega⟩
theorem b2_t {p : Prop} [Decidable p] (h : p) : b2 p = 1 := if_pos h
theorem b2_f {p : Prop} [Decidable p] (h : ¬ p) : b2 p = 0 := if_neg h
theorem chk_t {z : Int} (h : LB1 z) : chk z = some z := if_pos h
def jn (v : Nat) (x y : Int) : Option Int :=
  if v = 42 then chk (x * y) else if v = 43 then chk (x + y) else if v = 45 then chk (x - y) else if v = 47 then (if y = 0 then none else chk (x.tdiv y)) else if v = 60 then some (b2 (x < y)) else if v = 61 then some (b2 (x = y)) else if v = 62 then some (b2 (y < x)) else if v = 256 then some (b2 (x ≤ y)) else if v = 257 then some (b2 (¬ x = y)) else if v = 258 then some (b2 (y ≤ x)) else if v = 261 then some (b2 (¬ x = 0 ∧ ¬ y = 0)) else some (b2 (¬ x = 0 ∨ ¬ y = 0))
theorem chk_b {z w : Int} (h : chk z = some w) : LB1 w := by
  unfold chk at h
  split at h
  · next q => cases h; exact q
  · cases h
theorem jn_b {v : Nat} {x y z : Int} (h : jn v x y = some z) : LB1 z := by
  unfold jn at h
  split at h
  · exact chk_b h
  split at h
  · exact chk_b h
  split at h
  · exact chk_b h
  split at h
  · split at h
    · cases h
    · exact chk_b h
  repeat (first | (split at h; · (cases h; exact b2_b _)) | (cases h; exact b2_b _))
def kst (D : DD) (nm : Nat → Int) (i : Nat) (s : List Int) : Option (List Int) :=
  if D 244 i = nI 2 then (match s with
    | [] => none
    | y :: s1 => if D 245 i = nI 260 then some (b2 (y = 0) :: s1) else (match s1 with
      | [] => none
      | x :: s2 => (jn (ix (D 245 i)) x y).map (fun z => z :: s2)))
  else if D 244 i = nI 0 then some ((ix (D 245 i) : Int) :: s) else some (nm (ix (D 245 i)) :: s)
def evl (D : DD) (nm : Nat → Int) : Nat → Nat → List Int → Option (List Int)
  | _, 0, s => some s
  | i, k + 1, s => (kst D nm i s).bind (evl D nm (i + 1) k)
def top0 (o : Option (List Int)) (er : Int) : Int := match o with
  | some (v :: _) => max 0 v
  | _ => er
def lawv (D : DD) (k : Nat) (nm : Nat → Int) (er : Int) : Int := top0 (evl D nm (lfr D k) (lto D k - lfr D k) []) er
/-- a stack of longs in a cell -/
def Stk (σ : ah_H) (a : Nat) : List Int → Prop
  | [] => True
  | v :: s => ah_L σ a s.length = iL v ∧ LB1 v ∧ Stk σ a s
theorem Stk.fr {σ τ : ah_H} {a : Nat} : ∀ {s : List Int}, Stk σ a s → (∀ j, j < s.length → ah_L τ a j = ah_L σ a j) → Stk τ a s := by
  intro s
  induction s with
  | nil => intro _ _; trivial
  | cons v s ih =>
    intro h e
    exact ⟨(e s.length (by simp)).trans h.1, h.2.1, ih h.2.2 (fun j hj => e j (by simp; omega))⟩
theorem isSg_n {x : Int32} (h : isSg x) : ∃ v, v < 1000 ∧ x = nI v ∧ isSg (nI v) := by
  have h0 := h
  rcases h with h | h | h | h | h | h | h | h | h | h | h | h | h <;> exact ⟨_, by decide, h, h ▸ h0⟩
/-- what the work on a law writes -/
def Xw (a j : Nat) : Prop := a = 225 ∧ j = 37 ∨ a = 247
theorem Xw_q : ∀ a j, Xw a j → Xq a j := by
  intro a j h; unfold Xw at h; unfold Xq; omega
section
variable {σ : ah_H} {D : DD}
theorem m_is (x : Int32) : f_X12_is x σ = some (if x = nI 0 then iL 0 else iL 1, σ) := by
  unfold f_X12_is f_X12_is_0
  simp only [l_0, q_0, q_1, iteS]
theorem m_407 (hw : Wf σ) {k : Nat} {z : Int} (hk : k < 64) (h37 : ah_I σ 225 37 = nI (k + 1)) (hz : LB z) : f_X12_works_407 225 (iL z) σ = some (if chk z = none then nI 0 else nI 1, ah_wL σ 247 k (iL z)) := by
  unfold f_X12_works_407
  simp only [to_bq, l_0, l_1, l_2, l_3, l_4, l_5, l_6, l_7, l_8, l_9, l_10, l_11, l_12, l_13, l_14, l_15, l_16, l_17, l_18, l_19, l_20, l_21, l_22, l_23, l_24, l_25, l_26, l_27, l_28, l_29, l_30, l_31, l_32, l_40, l_41, l_42, l_43, l_44, l_45, l_46, l_47, l_48, l_49, l_50, l_51, l_52, l_53, l_54, l_55, l_56, l_57, l_58, l_59, l_60, l_61, l_62, l_63, l_64, l_72, l_97, l_99, l_100, l_104, l_120, l_122, l_128, l_140, l_255, l_256, l_257, l_258, l_260, l_261, l_262, l_364, l_680, l_700, l_701, l_840, l_999, l_1023, l_1024, l_9999, l_10000, l_1000000, lm]
  simp (disch := first | (with_reducible assumption) | omega | exact ⟨by omega, by omega⟩ | ((with_reducible first | apply Wf.wI | apply Wf.wL | apply Wf.fr); (repeat (with_reducible first | assumption | apply Wf.wI | apply Wf.wL | apply Wf.fr)))) only [ck_225, gI_225, gL_225, pI_225, pZ0_225, pZ1_225, pL_225, gR_225_1, gR_225_3, gR_225_4, gR_225_5, gR_225_6, gR_225_7, gR_225_8, gR_225_9, gR_225_10, gR_225_11, gR_225_12, gR_225_13, gR_225_14, gR_225_15, gR_225_16, gR_225_17, gR_225_18, gR_225_19, gR_225_20, gR_225_21, gR_225_35, gR_225_36, gR_225_38, gR_225_39, gR_225_40, gR_225_41, gR_225_43, gR_225_44, gR_225_45, gR_225_48, gR_225_49, gR_225_50, gR_225_51, gR_225_53, gR_225_54, gR_225_55, gR_225_56, gR_225_58, gR_225_59, gR_225_60, gR_225_61, gR_225_62, gR_225_63, gR_225_66, gR_225_67, bq_s, bd_s, mp_s, rz_0, rz_1, bI_rz, zadd, zmul, zsub, le_nI, lt_nI, eq_nI, neg_nI, gen_nI, neg_lt, neg_le, neg_lt', neg_le', nI_lt0, q_0, q_1, q_100, q_9999, q_1000000000000, q_100000000000000000, q_4000000000000000000, q_4611686018427387903, q_9223372036854775807, iadd, isub, imul, ineg, cmp_e, cmp_le, cmp_lt, cmp_ge, cmp_gt, maxl_i, minl_i, absl_i, toL_n, ldiv_i, sL_247, h37, Nat.reduceEqDiff, Nat.reduceAdd, Nat.reduceMul, Nat.reduceSub, Nat.reduceLT, Nat.reduceLeDiff, Nat.add_sub_cancel, Nat.zero_add, Nat.add_zero, Nat.mul_zero, Nat.zero_mul]
  unfold chk
  by_cases h1 : 1000000000000 < z
  · rw [if_pos h1, if_neg (show ¬ LB1 z by unfold LB1; omega), if_pos rfl]
  · rw [if_neg h1]
    by_cases h2 : z < -1000000000000
    · rw [if_pos h2, if_neg (show ¬ LB1 z by unfold LB1; omega), if_pos rfl]
    · rw [if_neg h2, if_pos (show LB1 z by unfold LB1; omega), if_neg (fun q => by cases q)]
/-- the product's bound, looked at ahead -/
theorem mul_ahead {x y : Int} (hx : x ≠ 0) : (1000000000000 : Int).tdiv (x.natAbs : Int) < (y.natAbs : Int) ↔ ¬ LB1 (x * y) := by
  have h0 : 0 < x.natAbs := Int.natAbs_pos.mpr hx
  have e1 : (1000000000000 : Int).tdiv (x.natAbs : Int) = ((1000000000000 / x.natAbs : Nat) : Int) := by
    rw [Int.tdiv_eq_ediv_of_nonneg (by omega)]; rfl
  rw [e1]
  have e2 : (x * y).natAbs = x.natAbs * y.natAbs := Int.natAbs_mul x y
  have e3 : 1000000000000 / x.natAbs < y.natAbs ↔ 1000000000000 < y.natAbs * x.natAbs := Nat.div_lt_iff_lt_mul h0
  rw [Nat.mul_comm, ← e2] at e3
  unfold LB1
  omega
theorem m_works2 (hw : Wf σ) {k v : Nat} {x y : Int} (hk : k + 2 ≤ 64) (h37 : ah_I σ 225 37 = nI (k + 2)) (hx : ah_L σ 247 k = iL x) (hy : ah_L σ 247 (k + 1) = iL y) (bx : LB1 x) (hb : LB1 y) (hv : isSg (nI v)) (hv1 : v < 1000) (hv2 : v ≠ 260) : Ok (f_X12_works 225 (nI v) σ) (fun r => Fr Xw σ r.2 ∧ r.1 = (if jn v x y = none then nI 0 else nI 1) ∧ ∀ z, jn v x y = some z → ah_I r.2 225 37 = nI (k + 1) ∧ ah_L r.2 247 k = iL z ∧ ∀ j, j < k → ah_L r.2 247 j = ah_L σ 247 j) := by
  have hw8 : Wf (ah_wI σ 225 37 (nI (k + 1))) := hw.wI _ _ _
  have fin : ∀ z : Int, LB z → jn v x y = chk z → Ok (f_X12_works_407 225 (iL z) (ah_wI σ 225 37 (nI (k + 1)))) (fun r => Fr Xw σ r.2 ∧ r.1 = (if jn v x y = none then nI 0 else nI 1) ∧ ∀ z, jn v x y = some z → ah_I r.2 225 37 = nI (k + 1) ∧ ah_L r.2 247 k = iL z ∧ ∀ j, j < k → ah_L r.2 247 j = ah_L σ 247 j) := by
    intro z hz e
    rw [m_407 hw8 (by omega) rI_eq hz]
    refine ⟨_, rfl, (Fr.rfl.wI (by unfold Xw; omega)).wL (by unfold Xw; omega), by rw [e], ?_⟩
    intro z' hz'
    rw [e] at hz'
    have hzz : z' = z := by
      unfold chk at hz'
      split at hz'
      · cases hz'; rfl
      · cases hz'
    subst hzz
    exact ⟨(by show ah_I (ah_wI σ 225 37 (nI (k + 1))) 225 37 = _; exact rI_eq), rL_eq, fun j hj => rL_ne (Or.inr (by omega))⟩
  have bad : jn v x y = none → Ok (some (nI 0, ah_wI σ 225 37 (nI (k + 1)))) (fun r => Fr Xw σ r.2 ∧ r.1 = (if jn v x y = none then nI 0 else nI 1) ∧ ∀ z, jn v x y = some z → ah_I r.2 225 37 = nI (k + 1) ∧ ah_L r.2 247 k = iL z ∧ ∀ j, j < k → ah_L r.2 247 j = ah_L σ 247 j) := by
    intro e
    exact ⟨_, rfl, Fr.rfl.wI (by unfold Xw; omega), by rw [if_pos e], fun z hz => by rw [e] at hz; cases hz⟩
  have c0 : chk 0 = some 0 := rfl
  have c1 : chk 1 = some 1 := rfl
  unfold LB1 at bx hb
  unfold isSg at hv
  simp (disch := omega) only [eq_nI] at hv
  unfold f_X12_works f_X12_works_0 f_X12_works_212 f_X12_works_250 f_X12_works_270 f_X12_works_290 f_X12_works_310 f_X12_works_330 f_X12_works_350 f_X12_works_375 f_X12_works_397 f_X12_works_376 f_X12_works_402
  simp only [to_bq, l_0, l_1, l_2, l_3, l_4, l_5, l_6, l_7, l_8, l_9, l_10, l_11, l_12, l_13, l_14, l_15, l_16, l_17, l_18, l_19, l_20, l_21, l_22, l_23, l_24, l_25, l_26, l_27, l_28, l_29, l_30, l_31, l_32, l_40, l_41, l_42, l_43, l_44, l_45, l_46, l_47, l_48, l_49, l_50, l_51, l_52, l_53, l_54, l_55, l_56, l_57, l_58, l_59, l_60, l_61, l_62, l_63, l_64, l_72, l_97, l_99, l_100, l_104, l_120, l_122, l_128, l_140, l_255, l_256, l_257, l_258, l_260, l_261, l_262, l_364, l_680, l_700, l_701, l_840, l_999, l_1023, l_1024, l_9999, l_10000, l_1000000, lm]
  rcases hv with rfl | rfl | rfl | rfl | rfl | rfl | rfl | rfl | rfl | rfl | rfl | rfl | rfl
  all_goals simp (disch := first | (with_reducible assumption) | omega | exact ⟨by omega, by omega⟩ | ((with_reducible first | apply Wf.wI | apply Wf.wL | apply Wf.fr); (repeat (with_reducible first | assumption | apply Wf.wI | apply Wf.wL | apply Wf.fr)))) only [ck_225, gI_225, gL_225, pI_225, pZ0_225, pZ1_225, pL_225, gR_225_1, gR_225_3, gR_225_4, gR_225_5, gR_225_6, gR_225_7, gR_225_8, gR_225_9, gR_225_10, gR_225_11, gR_225_12, gR_225_13, gR_225_14, gR_225_15, gR_225_16, gR_225_17, gR_225_18, gR_225_19, gR_225_20, gR_225_21, gR_225_35, gR_225_36, gR_225_38, gR_225_39, gR_225_40, gR_225_41, gR_225_43, gR_225_44, gR_225_45, gR_225_48, gR_225_49, gR_225_50, gR_225_51, gR_225_53, gR_225_54, gR_225_55, gR_225_56, gR_225_58, gR_225_59, gR_225_60, gR_225_61, gR_225_62, gR_225_63, gR_225_66, gR_225_67, bq_s, bd_s, mp_s, rz_0, rz_1, bI_rz, zadd, zmul, zsub, le_nI, lt_nI, eq_nI, neg_nI, gen_nI, neg_lt, neg_le, neg_lt', neg_le', nI_lt0, q_0, q_1, q_100, q_9999, q_1000000000000, q_100000000000000000, q_4000000000000000000, q_4611686018427387903, q_9223372036854775807, iadd, isub, imul, ineg, cmp_e, cmp_le, cmp_lt, cmp_ge, cmp_gt, maxl_i, minl_i, absl_i, toL_n, ldiv_i, rI_ne, rI_eq, rL_ne, rL_eq, ah_I_wL, ah_L_wI, ah_R_wI, ah_R_wL, ah_I_wR, ah_L_wR, rR_ne, rR_eq, aL_247, h37, hx, hy, Nat.reduceEqDiff, Nat.reduceAdd, Nat.reduceMul, Nat.reduceSub, Nat.reduceLT, Nat.reduceLeDiff, Nat.add_sub_cancel, Nat.zero_add, Nat.add_zero, Nat.mul_zero, Nat.zero_mul, if_true, if_false, ite_true, ite_false, reduceIte, not_true, not_false, and_true, true_and, and_false, false_and, or_true, true_or, or_false, false_or, eq_self, m_is, show k + 2 - 1 = k + 1 by omega, show k + 2 - 2 = k by omega]
  · exact fin _ ⟨by omega, by omega⟩ rfl
  · exact fin _ ⟨by omega, by omega⟩ rfl
  · have key : ∀ (q : x = 0 ∨ LB1 (x * y)), Ok (f_X12_works_407 225 (iL (x * y)) (ah_wI σ 225 37 (nI (k + 1)))) _ := fun q => fin (x * y) (by
      rcases q with q | q
      · subst q; rw [Int.zero_mul]; exact ⟨by omega, by omega⟩
      · unfold LB1 at q; exact ⟨by omega, by omega⟩) rfl
    by_cases q : x = 0
    · rw [if_pos q]
      exact key (Or.inl q)
    · rw [if_neg q]
      have h1 := mul_ahead (y := y) q
      have h3 : ((1000000000000 : Int).tdiv (x.natAbs : Int)).natAbs ≤ 1000000000000 := by
        rw [Int.natAbs_tdiv]; exact Nat.div_le_self _ _
      simp (disch := first | (with_reducible assumption) | omega | exact ⟨by omega, by omega⟩ | ((with_reducible first | apply Wf.wI | apply Wf.wL | apply Wf.fr); (repeat (with_reducible first | assumption | apply Wf.wI | apply Wf.wL | apply Wf.fr)))) only [q_0, q_1, q_100, q_9999, q_1000000000000, q_100000000000000000, q_4000000000000000000, q_4611686018427387903, q_9223372036854775807, iadd, isub, imul, ineg, cmp_e, cmp_le, cmp_lt, cmp_ge, cmp_gt, maxl_i, minl_i, absl_i, toL_n, ldiv_i, bq_s, bd_s, mp_s, rz_0, rz_1, bI_rz, show ((x.natAbs : Int) = 0) = False from eq_false (by omega), ne_eq, not_false_eq_true, show ((x.natAbs : Int) ≠ 0) from by omega]
      by_cases q2 : LB1 (x * y)
      · rw [if_pos (by omega)]
        exact key (Or.inr q2)
      · rw [if_neg (by have := h1.mpr q2; omega)]
        refine bad ?_
        show chk (x * y) = none
        unfold chk
        rw [if_neg q2]
  · by_cases q : y = 0
    · rw [if_pos q]
      refine bad ?_
      show (if y = 0 then none else chk (x.tdiv y)) = none
      rw [if_pos q]
    · rw [if_neg q]
      have h3 : (x.tdiv y).natAbs ≤ x.natAbs := by
        rw [Int.natAbs_tdiv]; exact Nat.div_le_self _ _
      rw [ldiv_i (by omega) (by omega) ⟨by omega, by omega⟩ q, bq_s]
      refine fin _ ⟨by omega, by omega⟩ ?_
      show (if y = 0 then none else chk (x.tdiv y)) = _
      rw [if_neg q]
  · split
    · next q => exact fin 0 ⟨by omega, by omega⟩ (by rw [c0]; show some (b2 (x < y)) = _; rw [b2_f (by omega)])
    · next q => exact fin 1 ⟨by omega, by omega⟩ (by rw [c1]; show some (b2 (x < y)) = _; rw [b2_t (by omega)])
  · split
    · next q => exact fin 0 ⟨by omega, by omega⟩ (by rw [c0]; show some (b2 (y < x)) = _; rw [b2_f (by omega)])
    · next q => exact fin 1 ⟨by omega, by omega⟩ (by rw [c1]; show some (b2 (y < x)) = _; rw [b2_t (by omega)])
  · split
    · next q => exact fin 1 ⟨by omega, by omega⟩ (by rw [c1]; show some (b2 (x = y)) = _; rw [b2_t (by omega)])
    · next q => exact fin 0 ⟨by omega, by omega⟩ (by rw [c0]; show some (b2 (x = y)) = _; rw [b2_f (by omega)])
  · split
    · next q => exact fin 0 ⟨by omega, by omega⟩ (by rw [c0]; show some (b2 (x ≤ y)) = _; rw [b2_f (by omega)])
    · next q => exact fin 1 ⟨by omega, by omega⟩ (by rw [c1]; show some (b2 (x ≤ y)) = _; rw [b2_t (by omega)])
  · split
    · next q => exact fin 0 ⟨by omega, by omega⟩ (by rw [c0]; show some (b2 (¬ x = y)) = _; rw [b2_f (by omega)])
    · next q => exact fin 1 ⟨by omega, by omega⟩ (by rw [c1]; show some (b2 (¬ x = y)) = _; rw [b2_t (by omega)])
  · split
    · next q => exact fin 0 ⟨by omega, by omega⟩ (by rw [c0]; show some (b2 (y ≤ x)) = _; rw [b2_f (by omega)])
    · next q => exact fin 1 ⟨by omega, by omega⟩ (by rw [c1]; show some (b2 (y ≤ x)) = _; rw [b2_t (by omega)])
  · exact absurd rfl hv2
  · split
    · next q => exact fin 0 ⟨by omega, by omega⟩ (by rw [c0]; show some (b2 (¬ x = 0 ∧ ¬ y = 0)) = _; rw [b2_f (by omega)])
    · split
      · next q => exact fin 0 ⟨by omega, by omega⟩ (by rw [c0]; show some (b2 (¬ x = 0 ∧ ¬ y = 0)) = _; rw [b2_f (by omega)])
      · next q => exact fin 1 ⟨by omega, by omega⟩ (by rw [c1]; show some (b2 (¬ x = 0 ∧ ¬ y = 0)) = _; rw [b2_t (by omega)])
  · split
    · split
      · next q => exact fin 0 ⟨by omega, by omega⟩ (by rw [c0]; show some (b2 (¬ x = 0 ∨ ¬ y = 0)) = _; rw [b2_f (by omega)])
      · next q => exact fin 1 ⟨by omega, by omega⟩ (by rw [c1]; show some (b2 (¬ x = 0 ∨ ¬ y = 0)) = _; rw [b2_t (by omega)])
    · next q => exact fin 1 ⟨by omega, by omega⟩ (by rw [c1]; show some (b2 (¬ x = 0 ∨ ¬ y = 0)) = _; rw [b2_t (by omega)])
theorem m_works1 (hw : Wf σ) {k : Nat} {y : Int} (hk : k + 1 ≤ 64) (h37 : ah_I σ 225 37 = nI (k + 1)) (hy : ah_L σ 247 k = iL y) (hb : LB1 y) : f_X12_works 225 (nI 260) σ = some (nI 1, ah_wL σ 247 k (iL (b2 (y = 0)))) := by
  unfold LB1 at hb
  unfold f_X12_works f_X12_works_0 f_X12_works_40
  simp only [to_bq, l_0, l_1, l_2, l_3, l_4, l_5, l_6, l_7, l_8, l_9, l_10, l_11, l_12, l_13, l_14, l_15, l_16, l_17, l_18, l_19, l_20, l_21, l_22, l_23, l_24, l_25, l_26, l_27, l_28, l_29, l_30, l_31, l_32, l_40, l_41, l_42, l_43, l_44, l_45, l_46, l_47, l_48, l_49, l_50, l_51, l_52, l_53, l_54, l_55, l_56, l_57, l_58, l_59, l_60, l_61, l_62, l_63, l_64, l_72, l_97, l_99, l_100, l_104, l_120, l_122, l_128, l_140, l_255, l_256, l_257, l_258, l_260, l_261, l_262, l_364, l_680, l_700, l_701, l_840, l_999, l_1023, l_1024, l_9999, l_10000, l_1000000, lm]
  simp (disch := first | (with_reducible assumption) | omega | exact ⟨by omega, by omega⟩ | ((with_reducible first | apply Wf.wI | apply Wf.wL | apply Wf.fr); (repeat (with_reducible first | assumption | apply Wf.wI | apply Wf.wL | apply Wf.fr)))) only [ck_225, gI_225, gL_225, pI_225, pZ0_225, pZ1_225, pL_225, gR_225_1, gR_225_3, gR_225_4, gR_225_5, gR_225_6, gR_225_7, gR_225_8, gR_225_9, gR_225_10, gR_225_11, gR_225_12, gR_225_13, gR_225_14, gR_225_15, gR_225_16, gR_225_17, gR_225_18, gR_225_19, gR_225_20, gR_225_21, gR_225_35, gR_225_36, gR_225_38, gR_225_39, gR_225_40, gR_225_41, gR_225_43, gR_225_44, gR_225_45, gR_225_48, gR_225_49, gR_225_50, gR_225_51, gR_225_53, gR_225_54, gR_225_55, gR_225_56, gR_225_58, gR_225_59, gR_225_60, gR_225_61, gR_225_62, gR_225_63, gR_225_66, gR_225_67, bq_s, bd_s, mp_s, rz_0, rz_1, bI_rz, zadd, zmul, zsub, le_nI, lt_nI, eq_nI, neg_nI, gen_nI, neg_lt, neg_le, neg_lt', neg_le', nI_lt0, q_0, q_1, q_100, q_9999, q_1000000000000, q_100000000000000000, q_4000000000000000000, q_4611686018427387903, q_9223372036854775807, iadd, isub, imul, ineg, cmp_e, cmp_le, cmp_lt, cmp_ge, cmp_gt, maxl_i, minl_i, absl_i, toL_n, ldiv_i, rI_ne, rI_eq, rL_ne, rL_eq, ah_I_wL, ah_L_wI, ah_R_wI, ah_R_wL, ah_I_wR, ah_L_wR, rR_ne, rR_eq, aL_247, sL_247, h37, hy, Nat.reduceEqDiff, Nat.reduceAdd, Nat.reduceMul, Nat.reduceSub, Nat.reduceLT, Nat.reduceLeDiff, Nat.add_sub_cancel, Nat.zero_add, Nat.add_zero, Nat.mul_zero, Nat.zero_mul, if_true, if_false, ite_true, ite_false, reduceIte, not_true, not_false, and_true, true_and, and_false, false_and, or_true, true_or, or_false, false_or, eq_self, m_is]
  by_cases q : y = 0
  · rw [if_pos q, b2_t q]
  · rw [if_neg q, b2_f q]
theorem m_law13 (h0 : MInv σ D) {k : Nat} (hk : k < 3) {nm : Nat → Int} (hnb : ∀ j, j < 6 → LB1 (nm j)) (er : Int) : ∀ m i fu (τ : ah_H) (s : List Int), i + m = lto D k → m < fu → lfr D k ≤ i → s.length ≤ i → stps D i m s.length = some 1 → Fr Xw σ τ → (∀ j, j < 6 → ah_L σ 246 j = iL (nm j)) → Stk τ 247 s → ah_I τ 225 37 = nI s.length → Ok (f_X12_law_13 fu 225 (nI k) (iL er) (nI i) τ) (fun r => r.1 = iL (top0 (evl D nm i m s) er) ∧ Fr Xw σ r.2) := by
  intro m
  induction m with
  | zero =>
    intro i fu τ s hi hf hl hsl hst hfr hnm hs h37
    obtain ⟨fu, rfl⟩ : ∃ q, fu = q + 1 := ⟨fu - 1, by omega⟩
    have h : MInv τ D := h0.q (hfr.mono Xw_q)
    have hw := h.w
    obtain ⟨b1, b2', b3⟩ := h.t.qfrom hk
    show Ok (f_X12_law_13_b _ _ _ _ _ _) _
    unfold f_X12_law_13_b f_X12_law_109
    simp only [to_bq, l_0, l_1, l_2, l_3, l_4, l_5, l_6, l_7, l_8, l_9, l_10, l_11, l_12, l_13, l_14, l_15, l_16, l_17, l_18, l_19, l_20, l_21, l_22, l_23, l_24, l_25, l_26, l_27, l_28, l_29, l_30, l_31, l_32, l_40, l_41, l_42, l_43, l_44, l_45, l_46, l_47, l_48, l_49, l_50, l_51, l_52, l_53, l_54, l_55, l_56, l_57, l_58, l_59, l_60, l_61, l_62, l_63, l_64, l_72, l_97, l_99, l_100, l_104, l_120, l_122, l_128, l_140, l_255, l_256, l_257, l_258, l_260, l_261, l_262, l_364, l_680, l_700, l_701, l_840, l_999, l_1023, l_1024, l_9999, l_10000, l_1000000, lm]
    have hl1 : s.length = 1 := by
      have : (some s.length : Option Nat) = some 1 := hst
      exact Option.some.inj this
    match s, hl1 with
    | [v], _ =>
      obtain ⟨e1, e2, -⟩ := hs
      have e1 : ah_L τ 247 0 = iL v := e1
      unfold LB1 at e2
      simp (disch := first | (with_reducible assumption) | omega | exact ⟨by omega, by omega⟩ | ((with_reducible first | apply Wf.wI | apply Wf.wL | apply Wf.fr); (repeat (with_reducible first | assumption | apply Wf.wI | apply Wf.wL | apply Wf.fr)))) only [ck_225, gI_225, gL_225, pI_225, pZ0_225, pZ1_225, pL_225, gR_225_1, gR_225_3, gR_225_4, gR_225_5, gR_225_6, gR_225_7, gR_225_8, gR_225_9, gR_225_10, gR_225_11, gR_225_12, gR_225_13, gR_225_14, gR_225_15, gR_225_16, gR_225_17, gR_225_18, gR_225_19, gR_225_20, gR_225_21, gR_225_35, gR_225_36, gR_225_38, gR_225_39, gR_225_40, gR_225_41, gR_225_43, gR_225_44, gR_225_45, gR_225_48, gR_225_49, gR_225_50, gR_225_51, gR_225_53, gR_225_54, gR_225_55, gR_225_56, gR_225_58, gR_225_59, gR_225_60, gR_225_61, gR_225_62, gR_225_63, gR_225_66, gR_225_67, bq_s, bd_s, mp_s, rz_0, rz_1, bI_rz, zadd, zmul, zsub, le_nI, lt_nI, eq_nI, neg_nI, gen_nI, neg_lt, neg_le, neg_lt', neg_le', nI_lt0, q_0, q_1, q_100, q_9999, q_1000000000000, q_100000000000000000, q_4000000000000000000, q_4611686018427387903, q_9223372036854775807, iadd, isub, imul, ineg, cmp_e, cmp_le, cmp_lt, cmp_ge, cmp_gt, maxl_i, minl_i, absl_i, toL_n, ldiv_i, aI_243, aL_247, rd_to h, if_true, if_false, ite_true, ite_false, reduceIte, not_true, not_false, and_true, true_and, and_false, false_and, or_true, true_or, or_false, false_or, eq_self, e1, show (lto D k ≤ i) = True from eq_true (by omega)]
      exact ⟨_, rfl, rfl, hfr⟩
  | succ m ih =>
    intro i fu τ s hi hf hl hsl hst hfr hnm hs h37
    obtain ⟨fu, rfl⟩ : ∃ q, fu = q + 1 := ⟨fu - 1, by omega⟩
    have h : MInv τ D := h0.q (hfr.mono Xw_q)
    have hw := h.w
    obtain ⟨b1, b2', b3⟩ := h.t.qfrom hk
    have hkn := h.t.qkn (show i < nK D by omega)
    show Ok (f_X12_law_13_b _ _ _ _ _ _) _
    unfold f_X12_law_13_b f_X12_law_92 f_X12_law_103
    simp only [to_bq, l_0, l_1, l_2, l_3, l_4, l_5, l_6, l_7, l_8, l_9, l_10, l_11, l_12, l_13, l_14, l_15, l_16, l_17, l_18, l_19, l_20, l_21, l_22, l_23, l_24, l_25, l_26, l_27, l_28, l_29, l_30, l_31, l_32, l_40, l_41, l_42, l_43, l_44, l_45, l_46, l_47, l_48, l_49, l_50, l_51, l_52, l_53, l_54, l_55, l_56, l_57, l_58, l_59, l_60, l_61, l_62, l_63, l_64, l_72, l_97, l_99, l_100, l_104, l_120, l_122, l_128, l_140, l_255, l_256, l_257, l_258, l_260, l_261, l_262, l_364, l_680, l_700, l_701, l_840, l_999, l_1023, l_1024, l_9999, l_10000, l_1000000, lm]
    have hst : (stp (D 244 i) (D 245 i) s.length).bind (stps D (i + 1) m) = some 1 := hst
    show Ok _ (fun r : Int64 × ah_H => r.1 = iL (top0 ((kst D nm i s).bind (evl D nm (i + 1) m)) er) ∧ Fr Xw σ r.2)
    simp (disch := first | (with_reducible assumption) | omega | exact ⟨by omega, by omega⟩ | ((with_reducible first | apply Wf.wI | apply Wf.wL | apply Wf.fr); (repeat (with_reducible first | assumption | apply Wf.wI | apply Wf.wL | apply Wf.fr)))) only [ck_225, gI_225, gL_225, pI_225, pZ0_225, pZ1_225, pL_225, gR_225_1, gR_225_3, gR_225_4, gR_225_5, gR_225_6, gR_225_7, gR_225_8, gR_225_9, gR_225_10, gR_225_11, gR_225_12, gR_225_13, gR_225_14, gR_225_15, gR_225_16, gR_225_17, gR_225_18, gR_225_19, gR_225_20, gR_225_21, gR_225_35, gR_225_36, gR_225_38, gR_225_39, gR_225_40, gR_225_41, gR_225_43, gR_225_44, gR_225_45, gR_225_48, gR_225_49, gR_225_50, gR_225_51, gR_225_53, gR_225_54, gR_225_55, gR_225_56, gR_225_58, gR_225_59, gR_225_60, gR_225_61, gR_225_62, gR_225_63, gR_225_66, gR_225_67, bq_s, bd_s, mp_s, rz_0, rz_1, bI_rz, zadd, zmul, zsub, le_nI, lt_nI, eq_nI, neg_nI, gen_nI, neg_lt, neg_le, neg_lt', neg_le', nI_lt0, if_true, if_false, ite_true, ite_false, reduceIte, not_true, not_false, and_true, true_and, and_false, false_and, or_true, true_or, or_false, false_or, eq_self, aI_243, aI_244, aI_245, rd_to h, rd_ks h, rd_kv h, show (lto D k ≤ i) = False from eq_false (by omega)]
    rcases hkn with ⟨g1, g2⟩ | ⟨g1, g2⟩ | ⟨g1, g2⟩
    · have hg := g2.le
      simp (disch := first | (with_reducible assumption) | omega | exact ⟨by omega, by omega⟩ | ((with_reducible first | apply Wf.wI | apply Wf.wL | apply Wf.fr); (repeat (with_reducible first | assumption | apply Wf.wI | apply Wf.wL | apply Wf.fr)))) only [g1, zadd, zmul, zsub, le_nI, lt_nI, eq_nI, neg_nI, gen_nI, neg_lt, neg_le, neg_lt', neg_le', nI_lt0, Nat.reduceEqDiff, Nat.reduceAdd, Nat.reduceMul, Nat.reduceSub, Nat.reduceLT, Nat.reduceLeDiff, Nat.add_sub_cancel, Nat.zero_add, Nat.add_zero, Nat.mul_zero, Nat.zero_mul, if_true, if_false, ite_true, ite_false, reduceIte, not_true, not_false, and_true, true_and, and_false, false_and, or_true, true_or, or_false, false_or, eq_self, bq_s, bd_s, mp_s, rz_0, rz_1, bI_rz]
      rw [g2.eq]
      simp (disch := first | (with_reducible assumption) | omega | exact ⟨by omega, by omega⟩ | ((with_reducible first | apply Wf.wI | apply Wf.wL | apply Wf.fr); (repeat (with_reducible first | assumption | apply Wf.wI | apply Wf.wL | apply Wf.fr)))) only [ck_225, gI_225, gL_225, pI_225, pZ0_225, pZ1_225, pL_225, gR_225_1, gR_225_3, gR_225_4, gR_225_5, gR_225_6, gR_225_7, gR_225_8, gR_225_9, gR_225_10, gR_225_11, gR_225_12, gR_225_13, gR_225_14, gR_225_15, gR_225_16, gR_225_17, gR_225_18, gR_225_19, gR_225_20, gR_225_21, gR_225_35, gR_225_36, gR_225_38, gR_225_39, gR_225_40, gR_225_41, gR_225_43, gR_225_44, gR_225_45, gR_225_48, gR_225_49, gR_225_50, gR_225_51, gR_225_53, gR_225_54, gR_225_55, gR_225_56, gR_225_58, gR_225_59, gR_225_60, gR_225_61, gR_225_62, gR_225_63, gR_225_66, gR_225_67, sL_247, h37, bq_s, bd_s, mp_s, rz_0, rz_1, bI_rz, rI_ne, rI_eq, rL_ne, rL_eq, ah_I_wL, ah_L_wI, ah_R_wI, ah_R_wL, ah_I_wR, ah_L_wR, rR_ne, rR_eq, q_0, q_1, q_100, q_9999, q_1000000000000, q_100000000000000000, q_4000000000000000000, q_4611686018427387903, q_9223372036854775807, iadd, isub, imul, ineg, cmp_e, cmp_le, cmp_lt, cmp_ge, cmp_gt, maxl_i, minl_i, absl_i, toL_n, ldiv_i, zadd, zmul, zsub, le_nI, lt_nI, eq_nI, neg_nI, gen_nI, neg_lt, neg_le, neg_lt', neg_le', nI_lt0]
      unfold stp at hst
      unfold kst
      rw [g1] at hst ⊢
      simp (disch := first | (with_reducible assumption) | omega | exact ⟨by omega, by omega⟩ | ((with_reducible first | apply Wf.wI | apply Wf.wL | apply Wf.fr); (repeat (with_reducible first | assumption | apply Wf.wI | apply Wf.wL | apply Wf.fr)))) only [zadd, zmul, zsub, le_nI, lt_nI, eq_nI, neg_nI, gen_nI, neg_lt, neg_le, neg_lt', neg_le', nI_lt0, Nat.reduceEqDiff, Nat.reduceAdd, Nat.reduceMul, Nat.reduceSub, Nat.reduceLT, Nat.reduceLeDiff, Nat.add_sub_cancel, Nat.zero_add, Nat.add_zero, Nat.mul_zero, Nat.zero_mul, if_true, if_false, ite_true, ite_false, reduceIte, not_true, not_false, and_true, true_and, and_false, false_and, or_true, true_or, or_false, false_or, eq_self, bd_s] at hst ⊢
      refine (ih (i + 1) fu _ (((ix (D 245 i) : Nat) : Int) :: s) (by omega) (by omega) (by omega) (by simp; omega) hst ((hfr.wL (by unfold Xw; omega)).wI (by unfold Xw; omega)) hnm ⟨?_, ⟨by omega, by omega⟩, ?_⟩ ?_)
      · rw [ah_L_wI, rL_eq]
      · exact hs.fr (fun j hj => by rw [ah_L_wI, rL_ne (Or.inr (by omega))])
      · rw [rI_eq]; rfl
    · have hg := g2.le
      have hnx := hnm (ix (D 245 i)) (by omega)
      have hnx : ah_L τ 246 (ix (D 245 i)) = iL (nm (ix (D 245 i))) := (hfr.L (by unfold Xw; omega)).trans hnx
      simp (disch := first | (with_reducible assumption) | omega | exact ⟨by omega, by omega⟩ | ((with_reducible first | apply Wf.wI | apply Wf.wL | apply Wf.fr); (repeat (with_reducible first | assumption | apply Wf.wI | apply Wf.wL | apply Wf.fr)))) only [g1, zadd, zmul, zsub, le_nI, lt_nI, eq_nI, neg_nI, gen_nI, neg_lt, neg_le, neg_lt', neg_le', nI_lt0, Nat.reduceEqDiff, Nat.reduceAdd, Nat.reduceMul, Nat.reduceSub, Nat.reduceLT, Nat.reduceLeDiff, Nat.add_sub_cancel, Nat.zero_add, Nat.add_zero, Nat.mul_zero, Nat.zero_mul, if_true, if_false, ite_true, ite_false, reduceIte, not_true, not_false, and_true, true_and, and_false, false_and, or_true, true_or, or_false, false_or, eq_self, bq_s, bd_s, mp_s, rz_0, rz_1, bI_rz]
      rw [g2.eq]
      simp (disch := first | (with_reducible assumption) | omega | exact ⟨by omega, by omega⟩ | ((with_reducible first | apply Wf.wI | apply Wf.wL | apply Wf.fr); (repeat (with_reducible first | assumption | apply Wf.wI | apply Wf.wL | apply Wf.fr)))) only [ck_225, gI_225, gL_225, pI_225, pZ0_225, pZ1_225, pL_225, gR_225_1, gR_225_3, gR_225_4, gR_225_5, gR_225_6, gR_225_7, gR_225_8, gR_225_9, gR_225_10, gR_225_11, gR_225_12, gR_225_13, gR_225_14, gR_225_15, gR_225_16, gR_225_17, gR_225_18, gR_225_19, gR_225_20, gR_225_21, gR_225_35, gR_225_36, gR_225_38, gR_225_39, gR_225_40, gR_225_41, gR_225_43, gR_225_44, gR_225_45, gR_225_48, gR_225_49, gR_225_50, gR_225_51, gR_225_53, gR_225_54, gR_225_55, gR_225_56, gR_225_58, gR_225_59, gR_225_60, gR_225_61, gR_225_62, gR_225_63, gR_225_66, gR_225_67, sL_247, aL_246, h37, bq_s, bd_s, mp_s, rz_0, rz_1, bI_rz, rI_ne, rI_eq, rL_ne, rL_eq, ah_I_wL, ah_L_wI, ah_R_wI, ah_R_wL, ah_I_wR, ah_L_wR, rR_ne, rR_eq, zadd, zmul, zsub, le_nI, lt_nI, eq_nI, neg_nI, gen_nI, neg_lt, neg_le, neg_lt', neg_le', nI_lt0, hnx]
      unfold stp at hst
      unfold kst
      rw [g1] at hst ⊢
      simp (disch := first | (with_reducible assumption) | omega | exact ⟨by omega, by omega⟩ | ((with_reducible first | apply Wf.wI | apply Wf.wL | apply Wf.fr); (repeat (with_reducible first | assumption | apply Wf.wI | apply Wf.wL | apply Wf.fr)))) only [zadd, zmul, zsub, le_nI, lt_nI, eq_nI, neg_nI, gen_nI, neg_lt, neg_le, neg_lt', neg_le', nI_lt0, Nat.reduceEqDiff, Nat.reduceAdd, Nat.reduceMul, Nat.reduceSub, Nat.reduceLT, Nat.reduceLeDiff, Nat.add_sub_cancel, Nat.zero_add, Nat.add_zero, Nat.mul_zero, Nat.zero_mul, if_true, if_false, ite_true, ite_false, reduceIte, not_true, not_false, and_true, true_and, and_false, false_and, or_true, true_or, or_false, false_or, eq_self, bd_s] at hst ⊢
      refine (ih (i + 1) fu _ (nm (ix (D 245 i)) :: s) (by omega) (by omega) (by omega) (by simp; omega) hst ((hfr.wL (by unfold Xw; omega)).wI (by unfold Xw; omega)) hnm ⟨?_, hnb _ (by omega), ?_⟩ ?_)
      · rw [ah_L_wI, rL_eq]
      · exact hs.fr (fun j hj => by rw [ah_L_wI, rL_ne (Or.inr (by omega))])
      · rw [rI_eq]; rfl
    · obtain ⟨v, hv, ev, hsg⟩ := isSg_n g2
      simp (disch := first | (with_reducible assumption) | omega | exact ⟨by omega, by omega⟩ | ((with_reducible first | apply Wf.wI | apply Wf.wL | apply Wf.fr); (repeat (with_reducible first | assumption | apply Wf.wI | apply Wf.wL | apply Wf.fr)))) only [g1, ev, zadd, zmul, zsub, le_nI, lt_nI, eq_nI, neg_nI, gen_nI, neg_lt, neg_le, neg_lt', neg_le', nI_lt0, Nat.reduceEqDiff, Nat.reduceAdd, Nat.reduceMul, Nat.reduceSub, Nat.reduceLT, Nat.reduceLeDiff, Nat.add_sub_cancel, Nat.zero_add, Nat.add_zero, Nat.mul_zero, Nat.zero_mul, if_true, if_false, ite_true, ite_false, reduceIte, not_true, not_false, and_true, true_and, and_false, false_and, or_true, true_or, or_false, false_or, eq_self, bq_s, bd_s, mp_s, rz_0, rz_1, bI_rz]
      unfold stp at hst
      unfold kst
      rw [g1, ev] at hst ⊢
      rw [ix_nI (by omega)]
      simp (disch := first | (with_reducible assumption) | omega | exact ⟨by omega, by omega⟩ | ((with_reducible first | apply Wf.wI | apply Wf.wL | apply Wf.fr); (repeat (with_reducible first | assumption | apply Wf.wI | apply Wf.wL | apply Wf.fr)))) only [zadd, zmul, zsub, le_nI, lt_nI, eq_nI, neg_nI, gen_nI, neg_lt, neg_le, neg_lt', neg_le', nI_lt0, Nat.reduceEqDiff, Nat.reduceAdd, Nat.reduceMul, Nat.reduceSub, Nat.reduceLT, Nat.reduceLeDiff, Nat.add_sub_cancel, Nat.zero_add, Nat.add_zero, Nat.mul_zero, Nat.zero_mul, if_true, if_false, ite_true, ite_false, reduceIte, not_true, not_false, and_true, true_and, and_false, false_and, or_true, true_or, or_false, false_or, eq_self, bd_s] at hst ⊢
      by_cases q : v = 260
      · subst q
        simp only [if_true, if_false, ite_true, ite_false, reduceIte, not_true, not_false, and_true, true_and, and_false, false_and, or_true, true_or, or_false, false_or, eq_self] at hst ⊢
        match s, hs, h37, hst, hsl with
        | [], _, _, hst, _ => simp at hst
        | y :: s1, ⟨e1, e2, e3⟩, h37, hst, hsl =>
          rw [m_works1 hw (k := s1.length) (by simp at hsl; omega) h37 e1 e2]
          simp (disch := first | (with_reducible assumption) | omega | exact ⟨by omega, by omega⟩ | ((with_reducible first | apply Wf.wI | apply Wf.wL | apply Wf.fr); (repeat (with_reducible first | assumption | apply Wf.wI | apply Wf.wL | apply Wf.fr)))) only [bq_s, bd_s, mp_s, rz_0, rz_1, bI_rz, zadd, zmul, zsub, le_nI, lt_nI, eq_nI, neg_nI, gen_nI, neg_lt, neg_le, neg_lt', neg_le', nI_lt0, Nat.reduceEqDiff, Nat.reduceAdd, Nat.reduceMul, Nat.reduceSub, Nat.reduceLT, Nat.reduceLeDiff, Nat.add_sub_cancel, Nat.zero_add, Nat.add_zero, Nat.mul_zero, Nat.zero_mul, if_true, if_false, ite_true, ite_false, reduceIte, not_true, not_false, and_true, true_and, and_false, false_and, or_true, true_or, or_false, false_or, eq_self, List.length_cons, show (1 ≤ s1.length + 1) = True from eq_true (by omega), bd_s] at hst ⊢
          refine (ih (i + 1) fu _ (b2 (y = 0) :: s1) (by omega) (by omega) (by omega) (by simp at hsl ⊢; omega) hst (hfr.wL (by unfold Xw; omega)) hnm ⟨rL_eq, b2_b _, ?_⟩ h37)
          exact e3.fr (fun j hj => by rw [rL_ne (Or.inr (by omega))])
      · rw [if_neg q] at hst
        simp only [q, if_true, if_false, ite_true, ite_false, reduceIte, not_true, not_false, and_true, true_and, and_false, false_and, or_true, true_or, or_false, false_or, eq_self]
        match s, hs, h37, hst, hsl with
        | [], _, _, hst, _ => simp at hst
        | [_], _, _, hst, _ => simp at hst
        | y :: x :: s2, ⟨e1, e2, e3, e4, e5⟩, h37, hst, hsl =>
          obtain ⟨⟨r1, r2⟩, hr, hrf, hr1, hr2⟩ := m_works2 hw (k := s2.length) (by simp at hsl; omega) h37 e3 e1 e4 e2 hsg hv q
          rw [hr]
          have hr1 : r1 = if jn v x y = none then nI 0 else nI 1 := hr1
          cases hj : jn v x y with
          | none =>
            rw [hj] at hr1
            rw [if_pos rfl] at hr1
            subst hr1
            simp (disch := first | (with_reducible assumption) | omega | exact ⟨by omega, by omega⟩ | ((with_reducible first | apply Wf.wI | apply Wf.wL | apply Wf.fr); (repeat (with_reducible first | assumption | apply Wf.wI | apply Wf.wL | apply Wf.fr)))) only [hj, bq_s, bd_s, mp_s, rz_0, rz_1, bI_rz, zadd, zmul, zsub, le_nI, lt_nI, eq_nI, neg_nI, gen_nI, neg_lt, neg_le, neg_lt', neg_le', nI_lt0, Nat.reduceEqDiff, Nat.reduceAdd, Nat.reduceMul, Nat.reduceSub, Nat.reduceLT, Nat.reduceLeDiff, Nat.add_sub_cancel, Nat.zero_add, Nat.add_zero, Nat.mul_zero, Nat.zero_mul, if_true, if_false, ite_true, ite_false, reduceIte, not_true, not_false, and_true, true_and, and_false, false_and, or_true, true_or, or_false, false_or, eq_self, Option.map_none, Option.bind_none]
            exact ⟨_, rfl, rfl, hfr.trans hrf⟩
          | some z =>
            rw [hj] at hr1
            rw [if_neg (by intro q; cases q)] at hr1
            subst hr1
            obtain ⟨t1, t2, t3⟩ := hr2 z hj
            simp (disch := first | (with_reducible assumption) | omega | exact ⟨by omega, by omega⟩ | ((with_reducible first | apply Wf.wI | apply Wf.wL | apply Wf.fr); (repeat (with_reducible first | assumption | apply Wf.wI | apply Wf.wL | apply Wf.fr)))) only [hj, bq_s, bd_s, mp_s, rz_0, rz_1, bI_rz, zadd, zmul, zsub, le_nI, lt_nI, eq_nI, neg_nI, gen_nI, neg_lt, neg_le, neg_lt', neg_le', nI_lt0, Nat.reduceEqDiff, Nat.reduceAdd, Nat.reduceMul, Nat.reduceSub, Nat.reduceLT, Nat.reduceLeDiff, Nat.add_sub_cancel, Nat.zero_add, Nat.add_zero, Nat.mul_zero, Nat.zero_mul, if_true, if_false, ite_true, ite_false, reduceIte, not_true, not_false, and_true, true_and, and_false, false_and, or_true, true_or, or_false, false_or, eq_self, Option.map_some, bd_s, List.length_cons, show (2 ≤ s2.length + 1 + 1) = True from eq_true (by omega)] at hst ⊢
            exact ih (i + 1) fu _ (z :: s2) (by omega) (by omega) (by omega) (by simp at hsl ⊢; omega) hst (hfr.trans hrf) hnm ⟨t2, jn_b hj, e5.fr t3⟩ t1
end
