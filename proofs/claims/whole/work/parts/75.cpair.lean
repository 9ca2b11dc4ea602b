/-! THE CLASS: a cost with its key, and the corners that come to one -/
def Rp (B : Int) (z k : Int64) (o : VV) : Prop := match o with
  | none => ∃ y : Int, z = iL y ∧ 100000000000000000 ≤ y ∧ y ≤ B
  | some x => z = iL (x.1 : Int) ∧ k = iL (x.2 : Int) ∧ x.1 < 100000000000000000 ∧ x.2 < 9223372036854775808
section
variable {σ : ah_H} {B : Int} {z k z' k' : Int64} {o o' : VV}
theorem c_isLess {y y' : Int} (h : LB y) (h' : LB y') (k k' : Int64) : f_X0_isLess (iL y) k (iL y') k' σ = some (cI (y < y' ∨ y = y' ∧ ¬ nI 0 ≤ lg_cmp k k'), σ) := by
  unfold f_X0_isLess f_X0_isLess_0
  simp only [to_bq, l_0, l_1, l_2, l_3, l_4, l_5, l_6, l_7, l_8, l_9, l_10, l_11, l_12, l_13, l_14, l_15, l_16, l_17, l_18, l_19, l_20, l_21, l_22, l_23, l_24, l_25, l_26, l_27, l_28, l_29, l_30, l_31, l_32, l_40, l_41, l_42, l_43, l_44, l_45, l_46, l_47, l_48, l_49, l_50, l_51, l_52, l_53, l_54, l_55, l_56, l_57, l_58, l_59, l_60, l_61, l_62, l_63, l_64, l_72, l_97, l_99, l_100, l_104, l_120, l_122, l_128, l_140, l_255, l_256, l_257, l_258, l_260, l_261, l_262, l_364, l_680, l_700, l_701, l_840, l_999, l_1023, l_1024, l_9999, l_10000, l_1000000, lm]
  simp (disch := first | (with_reducible assumption) | omega | exact ⟨by omega, by omega⟩ | ((with_reducible first | apply Wf.wI | apply Wf.wL | apply Wf.fL | apply Wf.fI | apply Wf.fr); (repeat (with_reducible first | assumption | apply Wf.wI | apply Wf.wL | apply Wf.fL | apply Wf.fI | apply Wf.fr)))) only [cmp_lt h h', cmp_e h h', mp_s, rz_0, rz_1]
  by_cases q1 : y < y'
  · rw [if_pos q1, cI_t (Or.inl q1)]
  · rw [if_neg q1]
    by_cases q2 : y = y'
    · rw [if_pos q2]
      by_cases q3 : nI 0 ≤ lg_cmp k k'
      · rw [if_pos q3, cI_f (fun w => w.elim q1 (fun w => w.2 q3))]
      · rw [if_neg q3, cI_t (Or.inr ⟨q2, q3⟩)]
    · rw [if_neg q2, cI_f (fun w => w.elim q1 (fun w => q2 w.1))]
theorem Rp.cost (h : Rp B z k o) (hB : B < 9223372036854775808) : ∃ y : Int, z = iL y ∧ 0 ≤ y ∧ LB y := by
  cases o with
  | none =>
    obtain ⟨y, h1, h2, h3⟩ := h
    exact ⟨y, h1, by omega, by omega, by omega⟩
  | some x =>
    obtain ⟨h1, h2, h3, h4⟩ := h
    exact ⟨_, h1, by omega, by omega, by omega⟩
/-- of two, the less -/
theorem c_less (h : Rp B z k o) (h' : Rp B z' k' o') (hB : B < 9223372036854775808) : ∃ P : Prop, f_X0_isLess z k z' k' σ = some (cI P, σ) ∧ (P → Rp B z k (vmin o' o)) ∧ (¬ P → Rp B z' k' (vmin o' o)) := by
  cases o with
  | none =>
    obtain ⟨y, e1, e2, e3⟩ := id h
    cases o' with
    | none =>
      obtain ⟨y', f1, f2, f3⟩ := id h'
      rw [e1, f1]
      rw [e1] at h
      rw [f1] at h'
      exact ⟨_, c_isLess ⟨by omega, by omega⟩ ⟨by omega, by omega⟩ k k', fun _ => h, fun _ => h'⟩
    | some x' =>
      obtain ⟨f1, f2, f3, f4⟩ := id h'
      rw [e1, f1]
      rw [f1] at h'
      refine ⟨_, c_isLess ⟨by omega, by omega⟩ ⟨by omega, by omega⟩ k k', fun w => ?_, fun _ => h'⟩
      exfalso
      omega
  | some x =>
    obtain ⟨e1, e2, e3, e4⟩ := id h
    cases o' with
    | none =>
      obtain ⟨y', f1, f2, f3⟩ := id h'
      rw [e1, f1]
      rw [e1] at h
      refine ⟨_, c_isLess ⟨by omega, by omega⟩ ⟨by omega, by omega⟩ k k', fun _ => h, fun w => ?_⟩
      exfalso
      exact w (Or.inl (by omega))
    | some x' =>
      obtain ⟨f1, f2, f3, f4⟩ := id h'
      refine ⟨vlt x x', ?_, fun w => ?_, fun w => ?_⟩
      · rw [e1, f1, c_isLess ⟨by omega, by omega⟩ ⟨by omega, by omega⟩ k k', e2, f2, cmp_ge ⟨by omega, by omega⟩ ⟨by omega, by omega⟩]
        congr 2
        refine cI_eq ?_
        unfold vlt
        omega
      · show Rp B z k (if vlt x x' then some x else some x')
        rw [if_pos w]; exact h
      · show Rp B z' k' (if vlt x x' then some x else some x')
        rw [if_neg w]; exact h'
theorem Rp.add {B' : Int} (h : Rp B z k o) (h' : Rp B' z' k' o') (hB : 100000000000000000 ≤ B) (hB' : 100000000000000000 ≤ B') (hb : ∀ x, vadd o o' = some x → x.1 < 100000000000000000 ∧ x.2 < 9223372036854775808) : Rp (B + B') (z + z') (k + k') (vadd o o') := by
  cases o with
  | none =>
    obtain ⟨y, e1, e2, e3⟩ := h
    cases o' with
    | none =>
      obtain ⟨y', f1, f2, f3⟩ := h'
      exact ⟨y + y', by rw [e1, f1, iadd], by omega, by omega⟩
    | some x' =>
      obtain ⟨f1, f2, f3, f4⟩ := h'
      exact ⟨y + x'.1, by rw [e1, f1, iadd], by omega, by omega⟩
  | some x =>
    obtain ⟨e1, e2, e3, e4⟩ := h
    cases o' with
    | none =>
      obtain ⟨y', f1, f2, f3⟩ := h'
      exact ⟨x.1 + y', by rw [e1, f1, iadd], by omega, by omega⟩
    | some x' =>
      obtain ⟨f1, f2, f3, f4⟩ := h'
      obtain ⟨b1, b2⟩ := hb _ rfl
      refine ⟨?_, ?_, b1, b2⟩
      · rw [e1, f1, iadd]
        show _ = iL (((x.1 + x'.1 : Nat)) : Int)
        rw [Int.natCast_add]
      · rw [e2, f2, iadd]
        show _ = iL (((x.2 + x'.2 : Nat)) : Int)
        rw [Int.natCast_add]
theorem Rp.mono {B' : Int} (h : Rp B z k o) (q : B ≤ B') : Rp B' z k o := by
  cases o with
  | none =>
    obtain ⟨y, e1, e2, e3⟩ := h
    exact ⟨y, e1, e2, by omega⟩
  | some x => exact h
/-- no more than the bound -/
theorem Rp.cap (h : Rp B z k o) (hB : B < 9223372036854775808) : Rp 100000000000000000 (op_minl (iL 100000000000000000) z) k o := by
  cases o with
  | none =>
    obtain ⟨y, e1, e2, e3⟩ := h
    refine ⟨100000000000000000, ?_, by omega, by omega⟩
    rw [e1, minl_i ⟨by omega, by omega⟩ ⟨by omega, by omega⟩]
    congr 1
    omega
  | some x =>
    obtain ⟨e1, e2, e3, e4⟩ := h
    refine ⟨?_, e2, e3, e4⟩
    rw [e1, minl_i ⟨by omega, by omega⟩ ⟨by omega, by omega⟩]
    congr 1
    omega
end
/-! corners that come to one -/
def kd (nx : Nat → Option Nat) (c : Nat) : Nat → Option Nat := fun o => if nx o = some c then some o else none
section
variable {σ : ah_H} {t : Nat} {D : DD} {st : Nat → Option Nat} {c : Nat}
def Xga (a j : Nat) : Prop := a = 168 ∨ a = 163 ∧ j = 8
theorem kd_t {nx : Nat → Option Nat} {o : Nat} (h : nx o = some c) (n : Nat) : kd nx c o = some o := if_pos h
theorem kd_f {nx : Nat → Option Nat} {o : Nat} (h : ¬ nx o = some c) : kd nx c o = none := if_neg h
theorem cnt_kt {nx : Nat → Option Nat} {o : Nat} (h : nx o = some c) : cnt (kd nx c) (o + 1) = cnt (kd nx c) o + 1 := by
  show cnt (kd nx c) o + (if kd nx c o = none then 0 else 1) = _
  rw [show kd nx c o = some o from if_pos h, if_neg (by intro z; cases z)]
theorem cnt_kf {nx : Nat → Option Nat} {o : Nat} (h : ¬ nx o = some c) : cnt (kd nx c) (o + 1) = cnt (kd nx c) o := by
  show cnt (kd nx c) o + (if kd nx c o = none then 0 else 1) = _
  rw [kd_f h, if_pos rfl]; rfl
theorem cnt_up (f : Nat → Option Nat) {a b : Nat} (h : a ≤ b) : cnt f a ≤ cnt f b := by
  induction b with
  | zero => rw [show a = 0 by omega]; exact Nat.le_refl _
  | succ b ih =>
    by_cases q : a = b + 1
    · rw [q]; exact Nat.le_refl _
    · have := ih (by omega)
      show cnt f a ≤ cnt f b + _
      omega
/-- the corners that come to c stand in a row -/
def GaR (σ : ah_H) (D : DD) (st : Nat → Option Nat) (c n : Nat) : Prop := ah_I σ 163 8 = nI (cnt (kd (nx D st) c) n) ∧ ∀ o, o < n → nx D st o = some c → ah_I σ 168 (cnt (kd (nx D st) c) o) = nI o
theorem c_ga7 (h0 : TR σ t D) (hp0 : ah_R σ 163 17 = some t) (hs0 : ∀ c, c < nC D → ah_I σ 164 c = sv (st c) ∧ ∀ s, st c = some s → s < nS D) (hc : c < nC D) : ∀ i k fu τ, k + i = nC D → i < fu → Fr Xga σ τ → GaR τ D st c k → ∃ τ', f_X0_gather_7 fu 163 (nI c) (nI k) τ = some τ' ∧ Fr Xga σ τ' ∧ GaR τ' D st c (nC D) := by
  have htn := h0.tn
  have b1 := h0.t.qs10
  have b2 := h0.t.qc7
  intro i
  induction i with
  | zero =>
    intro k fu τ hk hf g hg
    obtain ⟨fu, rfl⟩ : ∃ q, fu = q + 1 := ⟨fu - 1, by omega⟩
    have h : TR τ t D := h0.fr g (fun a j h1 h2 => by unfold Xga; rcases htn with z | z <;> omega)
    have hp : ah_R τ 163 17 = some t := by rw [g.R (Or.inr (by unfold Xga; omega))]; exact hp0
    have hW := h.w
    refine ⟨τ, ?_, g, by rw [show k = nC D by omega] at hg; exact hg⟩
    show f_X0_gather_7_b _ _ _ _ _ = _
    unfold f_X0_gather_7_b
    simp only [to_bq, l_0, l_1, l_2, l_3, l_4, l_5, l_6, l_7, l_8, l_9, l_10, l_11, l_12, l_13, l_14, l_15, l_16, l_17, l_18, l_19, l_20, l_21, l_22, l_23, l_24, l_25, l_26, l_27, l_28, l_29, l_30, l_31, l_32, l_40, l_41, l_42, l_43, l_44, l_45, l_46, l_47, l_48, l_49, l_50, l_51, l_52, l_53, l_54, l_55, l_56, l_57, l_58, l_59, l_60, l_61, l_62, l_63, l_64, l_72, l_97, l_99, l_100, l_104, l_120, l_122, l_128, l_140, l_255, l_256, l_257, l_258, l_260, l_261, l_262, l_364, l_680, l_700, l_701, l_840, l_999, l_1023, l_1024, l_9999, l_10000, l_1000000, lm]
    simp (disch := first | (with_reducible assumption) | omega | exact ⟨by omega, by omega⟩ | ((with_reducible first | apply Wf.wI | apply Wf.wL | apply Wf.fL | apply Wf.fI | apply Wf.fr); (repeat (with_reducible first | assumption | apply Wf.wI | apply Wf.wL | apply Wf.fL | apply Wf.fI | apply Wf.fr)))) only [ck_163, gI_163, gL_163, pI_163, pZ0_163, pZ1_163, pL_163, gR_163_1, gR_163_2, gR_163_3, gR_163_5, gR_163_6, gR_163_7, gR_163_9, gR_163_10, gR_163_11, gR_163_12, gR_163_13, gR_163_14, gR_163_15, pR_163_17, gR_163_17, ck_t, gI_t, gL_t, pI_t, pZ0_t, pZ1_t, pL_t, ck_w, gI_w, gL_w, pI_w, pZ0_w, pZ1_w, pL_w, gR_t_1, gR_t_5, gR_t_7, gR_t_9, gR_t_10, gR_t_11, gR_t_12, gR_t_15, gR_w_2, gR_w_3, gR_w_4, gR_w_5, gR_w_6, gR_w_7, aR_crow, aR_srow, aR_prow, aR_rrow, aI_crow, sI_crow, len_crow, aI_srow, sI_srow, len_srow, aI_prow, sI_prow, len_prow, aI_rrow, sI_rrow, len_rrow, aI_t25, sI_t25, len_t25, aI_t31, sI_t31, len_t31, aI_t32, sI_t32, len_t32, aI_t34, sI_t34, len_t34, aI_t35, sI_t35, len_t35, aI_t36, sI_t36, len_t36, aI_t37, sI_t37, len_t37, aL_t38, sL_t38, len_t38, aL_t39, sL_t39, len_t39, bq_n, bd_s, mp_s, rz_0, rz_1, bI_rz, zadd, zmul, zsub, le_nI, lt_nI, eq_nI, neg_nI, gen_nI, neg_lt, neg_le, neg_lt', neg_le', nI_lt0, if_true, if_false, ite_true, ite_false, reduceIte, not_true, not_false, and_true, true_and, and_false, false_and, or_true, true_or, or_false, false_or, eq_self, hp, tr_C h, show (nC D ≤ k) = True from eq_true (by omega)]
  | succ i ih =>
    intro k fu τ hk hf g hg
    obtain ⟨fu, rfl⟩ : ∃ q, fu = q + 1 := ⟨fu - 1, by omega⟩
    have h : TR τ t D := h0.fr g (fun a j h1 h2 => by unfold Xga; rcases htn with z | z <;> omega)
    have hp : ah_R τ 163 17 = some t := by rw [g.R (Or.inr (by unfold Xga; omega))]; exact hp0
    have hW := h.w
    have hk' : k < nC D := by omega
    have r4 : ah_I τ 164 k = sv (st k) := by rw [g.I (by unfold Xga; omega)]; exact (hs0 k hk').1
    have hcl := cnt_le (kd (nx D st) c) k
    show ∃ τ', f_X0_gather_7_b (f_X0_gather_7 fu) 163 (nI c) (nI k) τ = _ ∧ _
    have skip : ¬ nx D st k = some c → GaR τ D st c (k + 1) := fun z => ⟨by rw [cnt_kf z]; exact hg.1, fun o ho hx => by
      by_cases w : o = k
      · rw [w] at hx; exact absurd hx z
      · exact hg.2 o (by omega) hx⟩
    cases e : st k with
    | none =>
      have hno : ¬ nx D st k = some c := fun z => by unfold nx at z; rw [e] at z; cases z
      rw [e] at r4
      have he : f_X0_gather_7_b (f_X0_gather_7 fu) 163 (nI c) (nI k) τ = f_X0_gather_7 fu 163 (nI c) (nI (k + 1)) τ := by
        unfold f_X0_gather_7_b f_X0_gather_66
        simp only [to_bq, l_0, l_1, l_2, l_3, l_4, l_5, l_6, l_7, l_8, l_9, l_10, l_11, l_12, l_13, l_14, l_15, l_16, l_17, l_18, l_19, l_20, l_21, l_22, l_23, l_24, l_25, l_26, l_27, l_28, l_29, l_30, l_31, l_32, l_40, l_41, l_42, l_43, l_44, l_45, l_46, l_47, l_48, l_49, l_50, l_51, l_52, l_53, l_54, l_55, l_56, l_57, l_58, l_59, l_60, l_61, l_62, l_63, l_64, l_72, l_97, l_99, l_100, l_104, l_120, l_122, l_128, l_140, l_255, l_256, l_257, l_258, l_260, l_261, l_262, l_364, l_680, l_700, l_701, l_840, l_999, l_1023, l_1024, l_9999, l_10000, l_1000000, lm]
        simp (disch := first | (with_reducible assumption) | omega | exact ⟨by omega, by omega⟩ | ((with_reducible first | apply Wf.wI | apply Wf.wL | apply Wf.fL | apply Wf.fI | apply Wf.fr); (repeat (with_reducible first | assumption | apply Wf.wI | apply Wf.wL | apply Wf.fL | apply Wf.fI | apply Wf.fr)))) only [ck_163, gI_163, gL_163, pI_163, pZ0_163, pZ1_163, pL_163, gR_163_1, gR_163_2, gR_163_3, gR_163_5, gR_163_6, gR_163_7, gR_163_9, gR_163_10, gR_163_11, gR_163_12, gR_163_13, gR_163_14, gR_163_15, pR_163_17, gR_163_17, aI_164, sI_164, len_164, ck_t, gI_t, gL_t, pI_t, pZ0_t, pZ1_t, pL_t, ck_w, gI_w, gL_w, pI_w, pZ0_w, pZ1_w, pL_w, gR_t_1, gR_t_5, gR_t_7, gR_t_9, gR_t_10, gR_t_11, gR_t_12, gR_t_15, gR_w_2, gR_w_3, gR_w_4, gR_w_5, gR_w_6, gR_w_7, aR_crow, aR_srow, aR_prow, aR_rrow, aI_crow, sI_crow, len_crow, aI_srow, sI_srow, len_srow, aI_prow, sI_prow, len_prow, aI_rrow, sI_rrow, len_rrow, aI_t25, sI_t25, len_t25, aI_t31, sI_t31, len_t31, aI_t32, sI_t32, len_t32, aI_t34, sI_t34, len_t34, aI_t35, sI_t35, len_t35, aI_t36, sI_t36, len_t36, aI_t37, sI_t37, len_t37, aL_t38, sL_t38, len_t38, aL_t39, sL_t39, len_t39, bq_n, bd_s, mp_s, rz_0, rz_1, bI_rz, zadd, zmul, zsub, le_nI, lt_nI, eq_nI, neg_nI, gen_nI, neg_lt, neg_le, neg_lt', neg_le', nI_lt0, if_true, if_false, ite_true, ite_false, reduceIte, not_true, not_false, and_true, true_and, and_false, false_and, or_true, true_or, or_false, false_or, eq_self, hp, tr_C h, show (nC D ≤ k) = False from eq_false (by omega), r4, show sv none = mI 1 from rfl]
      rw [he]
      exact ih (k + 1) fu τ (by omega) (by omega) g (skip hno)
    | some s =>
      have hss := (hs0 k hk').2 s e
      have hnx : nx D st k = some (oth D s k) := by unfold nx; rw [e]; rfl
      have ho := h.t.qoth (c := k) hss
      rw [e] at r4
      by_cases q : oth D s k = c
      · have he : f_X0_gather_7_b (f_X0_gather_7 fu) 163 (nI c) (nI k) τ = f_X0_gather_7 fu 163 (nI c) (nI (k + 1)) (ah_wI (ah_wI τ 168 (cnt (kd (nx D st) c) k) (nI k)) 163 8 (nI (cnt (kd (nx D st) c) k + 1))) := by
          unfold f_X0_gather_7_b f_X0_gather_66
          simp only [to_bq, l_0, l_1, l_2, l_3, l_4, l_5, l_6, l_7, l_8, l_9, l_10, l_11, l_12, l_13, l_14, l_15, l_16, l_17, l_18, l_19, l_20, l_21, l_22, l_23, l_24, l_25, l_26, l_27, l_28, l_29, l_30, l_31, l_32, l_40, l_41, l_42, l_43, l_44, l_45, l_46, l_47, l_48, l_49, l_50, l_51, l_52, l_53, l_54, l_55, l_56, l_57, l_58, l_59, l_60, l_61, l_62, l_63, l_64, l_72, l_97, l_99, l_100, l_104, l_120, l_122, l_128, l_140, l_255, l_256, l_257, l_258, l_260, l_261, l_262, l_364, l_680, l_700, l_701, l_840, l_999, l_1023, l_1024, l_9999, l_10000, l_1000000, lm]
          simp (disch := first | (with_reducible assumption) | omega | exact ⟨by omega, by omega⟩ | ((with_reducible first | apply Wf.wI | apply Wf.wL | apply Wf.fL | apply Wf.fI | apply Wf.fr); (repeat (with_reducible first | assumption | apply Wf.wI | apply Wf.wL | apply Wf.fL | apply Wf.fI | apply Wf.fr)))) only [ck_163, gI_163, gL_163, pI_163, pZ0_163, pZ1_163, pL_163, gR_163_1, gR_163_2, gR_163_3, gR_163_5, gR_163_6, gR_163_7, gR_163_9, gR_163_10, gR_163_11, gR_163_12, gR_163_13, gR_163_14, gR_163_15, pR_163_17, gR_163_17, aI_164, sI_164, len_164, aI_168, sI_168, len_168, ck_t, gI_t, gL_t, pI_t, pZ0_t, pZ1_t, pL_t, ck_w, gI_w, gL_w, pI_w, pZ0_w, pZ1_w, pL_w, gR_t_1, gR_t_5, gR_t_7, gR_t_9, gR_t_10, gR_t_11, gR_t_12, gR_t_15, gR_w_2, gR_w_3, gR_w_4, gR_w_5, gR_w_6, gR_w_7, aR_crow, aR_srow, aR_prow, aR_rrow, aI_crow, sI_crow, len_crow, aI_srow, sI_srow, len_srow, aI_prow, sI_prow, len_prow, aI_rrow, sI_rrow, len_rrow, aI_t25, sI_t25, len_t25, aI_t31, sI_t31, len_t31, aI_t32, sI_t32, len_t32, aI_t34, sI_t34, len_t34, aI_t35, sI_t35, len_t35, aI_t36, sI_t36, len_t36, aI_t37, sI_t37, len_t37, aL_t38, sL_t38, len_t38, aL_t39, sL_t39, len_t39, bq_n, bd_s, mp_s, rz_0, rz_1, bI_rz, zadd, zmul, zsub, le_nI, lt_nI, eq_nI, neg_nI, gen_nI, neg_lt, neg_le, neg_lt', neg_le', nI_lt0, if_true, if_false, ite_true, ite_false, reduceIte, not_true, not_false, and_true, true_and, and_false, false_and, or_true, true_or, or_false, false_or, eq_self, hp, tr_C h, show (nC D ≤ k) = False from eq_false (by omega), r4, show sv (some s) = nI s from rfl, c_otherEnd h hss (show k < 7 by omega), q, hg.1, rI_ne, rI_eq, rL_ne, rL_eq, ah_I_wL, ah_L_wI, ah_R_wI, ah_R_wL, ah_I_wR, ah_L_wR, rR_ne, rR_eq]
        rw [he]
        have hkc : nx D st k = some c := by rw [hnx, q]
        refine ih (k + 1) fu _ (by omega) (by omega) ((g.wI (Or.inl rfl)).wI (Or.inr ⟨rfl, rfl⟩)) ⟨by rw [rI_eq, cnt_kt hkc], fun o hol hx => ?_⟩
        rw [rI_ne (by omega)]
        by_cases w : o = k
        · rw [w, rI_eq]
        · have h1 := cnt_kt hx
          have h2 := cnt_up (kd (nx D st) c) (show o + 1 ≤ k by omega)
          rw [rI_ne (by omega)]
          exact hg.2 o (by omega) hx
      · have hno : ¬ nx D st k = some c := fun z => by rw [hnx] at z; exact q (Option.some.inj z)
        have he : f_X0_gather_7_b (f_X0_gather_7 fu) 163 (nI c) (nI k) τ = f_X0_gather_7 fu 163 (nI c) (nI (k + 1)) τ := by
          unfold f_X0_gather_7_b f_X0_gather_66
          simp only [to_bq, l_0, l_1, l_2, l_3, l_4, l_5, l_6, l_7, l_8, l_9, l_10, l_11, l_12, l_13, l_14, l_15, l_16, l_17, l_18, l_19, l_20, l_21, l_22, l_23, l_24, l_25, l_26, l_27, l_28, l_29, l_30, l_31, l_32, l_40, l_41, l_42, l_43, l_44, l_45, l_46, l_47, l_48, l_49, l_50, l_51, l_52, l_53, l_54, l_55, l_56, l_57, l_58, l_59, l_60, l_61, l_62, l_63, l_64, l_72, l_97, l_99, l_100, l_104, l_120, l_122, l_128, l_140, l_255, l_256, l_257, l_258, l_260, l_261, l_262, l_364, l_680, l_700, l_701, l_840, l_999, l_1023, l_1024, l_9999, l_10000, l_1000000, lm]
          simp (disch := first | (with_reducible assumption) | omega | exact ⟨by omega, by omega⟩ | ((with_reducible first | apply Wf.wI | apply Wf.wL | apply Wf.fL | apply Wf.fI | apply Wf.fr); (repeat (with_reducible first | assumption | apply Wf.wI | apply Wf.wL | apply Wf.fL | apply Wf.fI | apply Wf.fr)))) only [ck_163, gI_163, gL_163, pI_163, pZ0_163, pZ1_163, pL_163, gR_163_1, gR_163_2, gR_163_3, gR_163_5, gR_163_6, gR_163_7, gR_163_9, gR_163_10, gR_163_11, gR_163_12, gR_163_13, gR_163_14, gR_163_15, pR_163_17, gR_163_17, aI_164, sI_164, len_164, ck_t, gI_t, gL_t, pI_t, pZ0_t, pZ1_t, pL_t, ck_w, gI_w, gL_w, pI_w, pZ0_w, pZ1_w, pL_w, gR_t_1, gR_t_5, gR_t_7, gR_t_9, gR_t_10, gR_t_11, gR_t_12, gR_t_15, gR_w_2, gR_w_3, gR_w_4, gR_w_5, gR_w_6, gR_w_7, aR_crow, aR_srow, aR_prow, aR_rrow, aI_crow, sI_crow, len_crow, aI_srow, sI_srow, len_srow, aI_prow, sI_prow, len_prow, aI_rrow, sI_rrow, len_rrow, aI_t25, sI_t25, len_t25, aI_t31, sI_t31, len_t31, aI_t32, sI_t32, len_t32, aI_t34, sI_t34, len_t34, aI_t35, sI_t35, len_t35, aI_t36, sI_t36, len_t36, aI_t37, sI_t37, len_t37, aL_t38, sL_t38, len_t38, aL_t39, sL_t39, len_t39, bq_n, bd_s, mp_s, rz_0, rz_1, bI_rz, zadd, zmul, zsub, le_nI, lt_nI, eq_nI, neg_nI, gen_nI, neg_lt, neg_le, neg_lt', neg_le', nI_lt0, if_true, if_false, ite_true, ite_false, reduceIte, not_true, not_false, and_true, true_and, and_false, false_and, or_true, true_or, or_false, false_or, eq_self, hp, tr_C h, show (nC D ≤ k) = False from eq_false (by omega), r4, show sv (some s) = nI s from rfl, c_otherEnd h hss (show k < 7 by omega), q]
        rw [he]
        exact ih (k + 1) fu τ (by omega) (by omega) g (skip hno)
theorem c_gather (h : TR σ t D) (hp : ah_R σ 163 17 = some t) (hs : ∀ c, c < nC D → ah_I σ 164 c = sv (st c) ∧ ∀ s, st c = some s → s < nS D) (hc : c < nC D) : ∃ τ, f_X0_gather 163 (nI c) σ = some τ ∧ Fr Xga σ τ ∧ GaR τ D st c (nC D) := by
  have b2 := h.t.qc7
  have hW := h.w
  have htn := h.tn
  have f1 : Fr Xga σ (ah_wI σ 163 8 (nI 0)) := (Fr.rfl (X := Xga) (σ := σ)).wI (Or.inr ⟨rfl, rfl⟩)
  obtain ⟨τ, e1, e2, e3⟩ := c_ga7 (σ := σ) h hp hs hc (nC D) 0 5000 (ah_wI σ 163 8 (nI 0)) (by omega) (by omega) f1 ⟨rI_eq, fun o ho => by omega⟩
  refine ⟨τ, ?_, e2, e3⟩
  unfold f_X0_gather f_X0_gather_0
  simp only [to_bq, l_0, l_1, l_2, l_3, l_4, l_5, l_6, l_7, l_8, l_9, l_10, l_11, l_12, l_13, l_14, l_15, l_16, l_17, l_18, l_19, l_20, l_21, l_22, l_23, l_24, l_25, l_26, l_27, l_28, l_29, l_30, l_31, l_32, l_40, l_41, l_42, l_43, l_44, l_45, l_46, l_47, l_48, l_49, l_50, l_51, l_52, l_53, l_54, l_55, l_56, l_57, l_58, l_59, l_60, l_61, l_62, l_63, l_64, l_72, l_97, l_99, l_100, l_104, l_120, l_122, l_128, l_140, l_255, l_256, l_257, l_258, l_260, l_261, l_262, l_364, l_680, l_700, l_701, l_840, l_999, l_1023, l_1024, l_9999, l_10000, l_1000000, lm]
  rw [ck_163 hW, pI_163 hW, bq_n]
  exact e1
theorem c_shiftOf (h : TR σ t D) (hp : ah_R σ 163 17 = some t) (hr : D 227 4 ≠ mI 1) (hc : c < nC D) : f_X0_shiftOf 163 (nI c) σ = some (nI (10 * (5 - (if riv D < c then c - 1 else c))), σ) := by
  have b2 := h.t.qc7
  have hW := h.w
  have htn := h.tn
  obtain ⟨r1, r2, -⟩ := h.t.rv hr
  have hrv := tr_riv h
  rw [r1] at hrv
  have key : ∀ n, n ≤ 6 → f_X0_shiftOf_18 (nI n) σ = some (nI (10 * (5 - n)), σ) := fun n hn => by
    unfold f_X0_shiftOf_18
    simp only [to_bq, l_0, l_1, l_2, l_3, l_4, l_5, l_6, l_7, l_8, l_9, l_10, l_11, l_12, l_13, l_14, l_15, l_16, l_17, l_18, l_19, l_20, l_21, l_22, l_23, l_24, l_25, l_26, l_27, l_28, l_29, l_30, l_31, l_32, l_40, l_41, l_42, l_43, l_44, l_45, l_46, l_47, l_48, l_49, l_50, l_51, l_52, l_53, l_54, l_55, l_56, l_57, l_58, l_59, l_60, l_61, l_62, l_63, l_64, l_72, l_97, l_99, l_100, l_104, l_120, l_122, l_128, l_140, l_255, l_256, l_257, l_258, l_260, l_261, l_262, l_364, l_680, l_700, l_701, l_840, l_999, l_1023, l_1024, l_9999, l_10000, l_1000000, lm]
    refine congrArg (fun z => some (z, σ)) ?_
    rw [jI_n, jI_n, jI_n, jI_n, jsub, maxi_j ⟨by omega, by omega⟩ ⟨by omega, by omega⟩, jmul, jI_n]
    congr 1
    omega
  unfold f_X0_shiftOf f_X0_shiftOf_0
  simp only [to_bq, l_0, l_1, l_2, l_3, l_4, l_5, l_6, l_7, l_8, l_9, l_10, l_11, l_12, l_13, l_14, l_15, l_16, l_17, l_18, l_19, l_20, l_21, l_22, l_23, l_24, l_25, l_26, l_27, l_28, l_29, l_30, l_31, l_32, l_40, l_41, l_42, l_43, l_44, l_45, l_46, l_47, l_48, l_49, l_50, l_51, l_52, l_53, l_54, l_55, l_56, l_57, l_58, l_59, l_60, l_61, l_62, l_63, l_64, l_72, l_97, l_99, l_100, l_104, l_120, l_122, l_128, l_140, l_255, l_256, l_257, l_258, l_260, l_261, l_262, l_364, l_680, l_700, l_701, l_840, l_999, l_1023, l_1024, l_9999, l_10000, l_1000000, lm]
  simp (disch := first | (with_reducible assumption) | omega | exact ⟨by omega, by omega⟩ | ((with_reducible first | apply Wf.wI | apply Wf.wL | apply Wf.fL | apply Wf.fI | apply Wf.fr); (repeat (with_reducible first | assumption | apply Wf.wI | apply Wf.wL | apply Wf.fL | apply Wf.fI | apply Wf.fr)))) only [ck_163, gI_163, gL_163, pI_163, pZ0_163, pZ1_163, pL_163, gR_163_1, gR_163_2, gR_163_3, gR_163_5, gR_163_6, gR_163_7, gR_163_9, gR_163_10, gR_163_11, gR_163_12, gR_163_13, gR_163_14, gR_163_15, pR_163_17, gR_163_17, ck_t, gI_t, gL_t, pI_t, pZ0_t, pZ1_t, pL_t, ck_w, gI_w, gL_w, pI_w, pZ0_w, pZ1_w, pL_w, gR_t_1, gR_t_5, gR_t_7, gR_t_9, gR_t_10, gR_t_11, gR_t_12, gR_t_15, gR_w_2, gR_w_3, gR_w_4, gR_w_5, gR_w_6, gR_w_7, aR_crow, aR_srow, aR_prow, aR_rrow, aI_crow, sI_crow, len_crow, aI_srow, sI_srow, len_srow, aI_prow, sI_prow, len_prow, aI_rrow, sI_rrow, len_rrow, aI_t25, sI_t25, len_t25, aI_t31, sI_t31, len_t31, aI_t32, sI_t32, len_t32, aI_t34, sI_t34, len_t34, aI_t35, sI_t35, len_t35, aI_t36, sI_t36, len_t36, aI_t37, sI_t37, len_t37, aL_t38, sL_t38, len_t38, aL_t39, sL_t39, len_t39, bq_n, bd_s, mp_s, rz_0, rz_1, bI_rz, hp, hrv]
  by_cases q : riv D < c
  · rw [if_neg (by rw [le_nI (by omega) (by omega)]; omega), if_pos q, zsub (by omega), key _ (by omega)]
  · rw [if_pos (by rw [le_nI (by omega) (by omega)]; omega), if_neg q, key _ (by omega)]
end
