/-! THE CLASS: the cheapest net is laid -/
theorem pl_shr (a s : Int64) (k : Nat) (hs : (s.toBitVec.smod 64).toNat = k) : (a >>> s).toInt = a.toInt >>> k := by
  show (a.toBitVec.sshiftRight (s.toBitVec.smod 64).toNat).toInt = _
  rw [hs, BitVec.toInt_sshiftRight]
  rfl
theorem pl_s10 {r : Nat} (h : r < 6) : ((Int32.toInt64 (nI (10 * r)) &&& 63).toBitVec.smod 64).toNat = 10 * r := (by decide +kernel : ∀ r, r < 6 → ((Int32.toInt64 (nI (10 * r)) &&& 63).toBitVec.smod 64).toNat = 10 * r) r h
theorem pl_dig {k r : Nat} (hk : k < 9223372036854775808) (hr : r < 6) : Int64.toInt32 (iL (k : Int) >>> (Int32.toInt64 (nI (10 * r)) &&& 63)) &&& nI 1023 = nI (k / 2 ^ (10 * r) % 1024) := by
  have e : iL (k : Int) >>> (Int32.toInt64 (nI (10 * r)) &&& 63) = iL ((k / 2 ^ (10 * r) : Nat) : Int) := by
    apply Int64.toInt_inj.mp
    have h2 : k / 2 ^ (10 * r) ≤ k := Nat.div_le_self _ _
    have h3 : (iL ((k / 2 ^ (10 * r) : Nat) : Int)).toInt = ((k / 2 ^ (10 * r) : Nat) : Int) := by
      generalize k / 2 ^ (10 * r) = u at *
      exact iL_t (by omega) (by omega)
    rw [h3, pl_shr _ _ (10 * r) (pl_s10 hr), iL_t (by omega) (by omega), Int.shiftRight_eq_div_pow]
    rfl
  rw [e]
  have e2 : Int64.toInt32 (iL ((k / 2 ^ (10 * r) : Nat) : Int)) = nI (k / 2 ^ (10 * r)) := by
    rw [jI_n]
    exact Int64.toInt32_ofInt
  rw [e2, z_and, show (1023 : Nat) = 2 ^ 10 - 1 from rfl, Nat.and_two_pow_sub_one_eq_mod]
theorem dg_w {d : Nat} (h : d < 1024) : nI d >>> (nI 8 &&& nI 31) = nI (d / 256) := by
  rw [sh31 (by omega), z_shr (by omega) (by omega)]
theorem dg_a {d : Nat} (h : d < 1024) : (nI d >>> (nI 4 &&& nI 31)) &&& nI 15 = nI (d / 16 % 16) := by
  rw [sh31 (by omega), z_shr (by omega) (by omega), z_and, show (15 : Nat) = 2 ^ 4 - 1 from rfl, Nat.and_two_pow_sub_one_eq_mod]
theorem dg_b (d : Nat) : nI d &&& nI 15 = nI (d % 16) := by
  rw [z_and, show (15 : Nat) = 2 ^ 4 - 1 from rfl, Nat.and_two_pow_sub_one_eq_mod]
section
variable {σ τ : ah_H} {t : Nat} {D : DD} {m k : Nat} {q : Nat → Nat}
/-- what a corner of the net becomes -/
def LdC (τ : ah_H) (D : DD) (m k c : Nat) : Prop := ah_I τ 91 c = sv (ost D m c) ∧ ah_I τ 92 c = nI (dgt D k c / 256) ∧ ah_I τ 93 c = nI (dgt D k c / 16 % 16) ∧ ah_I τ 94 c = nI (dgt D k c % 16)
theorem c_li28 (h0 : TR σ t D) (hp0 : ah_R σ 163 17 = some t) (hr : D 227 4 ≠ mI 1) (hk : k < 9223372036854775808) (oq : OQ D m (riv D) (nC D) (ost D m) q) (n4 : ah_I σ 163 4 = nI (nC D)) (n165 : ∀ j, j < nC D → ah_I σ 165 j = nI (q j)) (n164 : ∀ c, c < 7 → ah_I σ 164 c = sv (ost D m c)) : ∀ n i fu τ, i + n = nC D → 1 ≤ i → n < fu → Fr (fun a _ => 91 ≤ a ∧ a ≤ 94) σ τ → (∀ j, 1 ≤ j → j < i → LdC τ D m k (q j)) → (∀ c, (¬ ∃ j, 1 ≤ j ∧ j < i ∧ q j = c) → ah_I τ 91 c = ah_I σ 91 c) → ∃ τ', f_X0_layInto_28 fu 163 90 (iL (k : Int)) (nI i) τ = some τ' ∧ Fr (fun a _ => 91 ≤ a ∧ a ≤ 94) σ τ' ∧ (∀ j, 1 ≤ j → j < nC D → LdC τ' D m k (q j)) ∧ (∀ c, (¬ ∃ j, 1 ≤ j ∧ j < nC D ∧ q j = c) → ah_I τ' 91 c = ah_I σ 91 c) := by
  have htn := h0.tn
  have hT : t = 2 ∨ t = 42 := htn
  have b7 := h0.t.qc7
  intro n
  induction n with
  | zero =>
    intro i fu τ hi h1 hf g hd ho
    obtain ⟨fu, rfl⟩ : ∃ q, fu = q + 1 := ⟨fu - 1, by omega⟩
    obtain rfl : i = nC D := by omega
    have hW := h0.w.fr g
    refine ⟨τ, ?_, g, hd, ho⟩
    show f_X0_layInto_28_b _ _ _ _ _ _ = _
    unfold f_X0_layInto_28_b
    simp only [to_bq, l_0, l_1, l_2, l_3, l_4, l_5, l_6, l_7, l_8, l_9, l_10, l_11, l_12, l_13, l_14, l_15, l_16, l_17, l_18, l_19, l_20, l_21, l_22, l_23, l_24, l_25, l_26, l_27, l_28, l_29, l_30, l_31, l_32, l_40, l_41, l_42, l_43, l_44, l_45, l_46, l_47, l_48, l_49, l_50, l_51, l_52, l_53, l_54, l_55, l_56, l_57, l_58, l_59, l_60, l_61, l_62, l_63, l_64, l_72, l_97, l_99, l_100, l_104, l_120, l_122, l_128, l_140, l_255, l_256, l_257, l_258, l_260, l_261, l_262, l_364, l_680, l_700, l_701, l_840, l_999, l_1023, l_1024, l_9999, l_10000, l_1000000, lm]
    have n4' : ah_I τ 163 4 = nI (nC D) := by rw [g.I (by omega)]; exact n4
    simp (disch := first | (with_reducible assumption) | omega | exact ⟨by omega, by omega⟩ | ((with_reducible first | apply Wf.wI | apply Wf.wL | apply Wf.fL | apply Wf.fI | apply Wf.fr); (repeat (with_reducible first | assumption | apply Wf.wI | apply Wf.wL | apply Wf.fL | apply Wf.fI | apply Wf.fr)))) only [ck_163, gI_163, gL_163, pI_163, pZ0_163, pZ1_163, pL_163, gR_163_1, gR_163_2, gR_163_3, gR_163_5, gR_163_6, gR_163_7, gR_163_9, gR_163_10, gR_163_11, gR_163_12, gR_163_13, gR_163_14, gR_163_15, pR_163_17, gR_163_17, bq_n, bd_s, mp_s, rz_0, rz_1, bI_rz, zadd, zmul, zsub, le_nI, lt_nI, eq_nI, neg_nI, gen_nI, neg_lt, neg_le, neg_lt', neg_le', nI_lt0, if_true, if_false, ite_true, ite_false, reduceIte, not_true, not_false, and_true, true_and, and_false, false_and, or_true, true_or, or_false, false_or, eq_self, n4', Nat.le_refl]
  | succ n ih =>
    intro i fu τ hi h1 hf g hd ho
    obtain ⟨fu, rfl⟩ : ∃ q, fu = q + 1 := ⟨fu - 1, by omega⟩
    have h : TR τ t D := h0.fr g (fun a j _ _ => by omega)
    have hW := h.w
    have hp : ah_R τ 163 17 = some t := by rw [g.R (Or.inr (by omega))]; exact hp0
    have n4' : ah_I τ 163 4 = nI (nC D) := by rw [g.I (by omega)]; exact n4
    have hil : i < nC D := by omega
    have n5 : ah_I τ 165 i = nI (q i) := by rw [g.I (by omega)]; exact n165 i hil
    have hq := oq.2.2.1 i hil
    have n6 : ah_I τ 164 (q i) = sv (ost D m (q i)) := by rw [g.I (by omega)]; exact n164 (q i) (by omega)
    have hsh := c_shiftOf h hp hr hq
    have hd1024 : dgt D k (q i) < 1024 := Nat.mod_lt _ (by omega)
    have hdig : Int64.toInt32 (iL (k : Int) >>> (Int32.toInt64 (nI (10 * (5 - (if riv D < q i then q i - 1 else q i)))) &&& 63)) &&& nI 1023 = nI (dgt D k (q i)) := pl_dig hk (by omega)
    have he : f_X0_layInto_28 (fu + 1) 163 90 (iL (k : Int)) (nI i) τ = f_X0_layInto_28 fu 163 90 (iL (k : Int)) (nI (i + 1)) (ah_wI (ah_wI (ah_wI (ah_wI τ 91 (q i) (sv (ost D m (q i)))) 92 (q i) (nI (dgt D k (q i) / 256))) 93 (q i) (nI (dgt D k (q i) / 16 % 16))) 94 (q i) (nI (dgt D k (q i) % 16))) := by
      show f_X0_layInto_28_b _ _ _ _ _ _ = _
      unfold f_X0_layInto_28_b f_X5_put f_X5_put_0
      simp only [to_bq, l_0, l_1, l_2, l_3, l_4, l_5, l_6, l_7, l_8, l_9, l_10, l_11, l_12, l_13, l_14, l_15, l_16, l_17, l_18, l_19, l_20, l_21, l_22, l_23, l_24, l_25, l_26, l_27, l_28, l_29, l_30, l_31, l_32, l_40, l_41, l_42, l_43, l_44, l_45, l_46, l_47, l_48, l_49, l_50, l_51, l_52, l_53, l_54, l_55, l_56, l_57, l_58, l_59, l_60, l_61, l_62, l_63, l_64, l_72, l_97, l_99, l_100, l_104, l_120, l_122, l_128, l_140, l_255, l_256, l_257, l_258, l_260, l_261, l_262, l_364, l_680, l_700, l_701, l_840, l_999, l_1023, l_1024, l_9999, l_10000, l_1000000, lm]
      simp (disch := first | (with_reducible assumption) | omega | exact ⟨by omega, by omega⟩ | ((with_reducible first | apply Wf.wI | apply Wf.wL | apply Wf.fL | apply Wf.fI | apply Wf.fr); (repeat (with_reducible first | assumption | apply Wf.wI | apply Wf.wL | apply Wf.fL | apply Wf.fI | apply Wf.fr)))) only [ck_163, gI_163, gL_163, pI_163, pZ0_163, pZ1_163, pL_163, gR_163_1, gR_163_2, gR_163_3, gR_163_5, gR_163_6, gR_163_7, gR_163_9, gR_163_10, gR_163_11, gR_163_12, gR_163_13, gR_163_14, gR_163_15, pR_163_17, gR_163_17, aI_165, sI_165, len_165, aI_164, sI_164, len_164, ck_90, gI_90, gL_90, pI_90, pZ0_90, pZ1_90, pL_90, gR_90_0, gR_90_1, gR_90_2, gR_90_3, gR_90_6, gR_90_8, aI_91, sI_91, len_91, aI_92, sI_92, len_92, aI_93, sI_93, len_93, aI_94, sI_94, len_94, bq_n, bd_s, mp_s, rz_0, rz_1, bI_rz, zadd, le_nI, if_true, if_false, ite_true, ite_false, reduceIte, not_true, not_false, and_true, true_and, and_false, false_and, or_true, true_or, or_false, false_or, eq_self, n4', show (nC D ≤ i) = False from eq_false (by omega), n5, hsh, n6, hdig, dg_w hd1024, dg_a hd1024, dg_b]
    have f1 : Fr (fun a j => 91 ≤ a ∧ a ≤ 94 ∧ j = q i) τ (ah_wI (ah_wI (ah_wI (ah_wI τ 91 (q i) (sv (ost D m (q i)))) 92 (q i) (nI (dgt D k (q i) / 256))) 93 (q i) (nI (dgt D k (q i) / 16 % 16))) 94 (q i) (nI (dgt D k (q i) % 16))) := (((Fr.rfl.wI ⟨by omega, by omega, rfl⟩).wI ⟨by omega, by omega, rfl⟩).wI ⟨by omega, by omega, rfl⟩).wI ⟨by omega, by omega, rfl⟩
    have v1 : LdC (ah_wI (ah_wI (ah_wI (ah_wI τ 91 (q i) (sv (ost D m (q i)))) 92 (q i) (nI (dgt D k (q i) / 256))) 93 (q i) (nI (dgt D k (q i) / 16 % 16))) 94 (q i) (nI (dgt D k (q i) % 16))) D m k (q i) := by
      refine ⟨?_, ?_, ?_, ?_⟩
      · rw [rI_ne (by omega), rI_ne (by omega), rI_ne (by omega), rI_eq]
      · rw [rI_ne (by omega), rI_ne (by omega), rI_eq]
      · rw [rI_ne (by omega), rI_eq]
      · rw [rI_eq]
    rw [he]
    generalize ah_wI (ah_wI (ah_wI (ah_wI τ 91 (q i) (sv (ost D m (q i)))) 92 (q i) (nI (dgt D k (q i) / 256))) 93 (q i) (nI (dgt D k (q i) / 16 % 16))) 94 (q i) (nI (dgt D k (q i) % 16)) = ρ at *
    refine ih (i + 1) fu ρ (by omega) (by omega) (by omega) (g.trans (f1.mono (fun a j z => ⟨z.1, z.2.1⟩))) (fun j j1 j2 => ?_) (fun c hc => ?_)
    · by_cases qj : j = i
      · rw [qj]; exact v1
      · have hne : q j ≠ q i := fun z => qj (oq.2.2.2.1 j i (by omega) hil z)
        obtain ⟨w1, w2, w3, w4⟩ := hd j j1 (by omega)
        exact ⟨by rw [f1.I (by omega)]; exact w1, by rw [f1.I (by omega)]; exact w2, by rw [f1.I (by omega)]; exact w3, by rw [f1.I (by omega)]; exact w4⟩
    · have hne : c ≠ q i := fun z => hc ⟨i, h1, by omega, z.symm⟩
      rw [f1.I (by omega)]
      exact ho c (fun ⟨j, j1, j2, j3⟩ => hc ⟨j, j1, by omega, j3⟩)
theorem c_layIntoD (h : TR σ t D) (hp : ah_R σ 163 17 = some t) (hr : D 227 4 ≠ mI 1) (hm : TrQ D m) (hk : k < 9223372036854775808) : ∃ τ, f_X0_layInto 163 90 (nI m) (iL (k : Int)) σ = some τ ∧ Fr (fun a j => Xot a j ∨ 91 ≤ a ∧ a ≤ 94) σ τ ∧ OrS D m (ost D m) ∧ ∀ c, c < 7 → (ost D m c = none → ah_I τ 91 c = mI 1) ∧ (ost D m c ≠ none → LdC τ D m k c) := by
  have htn := h.tn
  have hT : t = 2 ∨ t = 42 := htn
  have hW := h.w
  have b7 := h.t.qc7
  obtain ⟨r1, r2, -⟩ := h.t.rv hr
  obtain ⟨τ1, q, e1, f1, oq, n4, n165, n164, os⟩ := c_orient h hp hr hm
  have h1 : TR τ1 t D := h.fr f1 (fun a j _ _ => by unfold Xot; omega)
  have hW1 := h1.w
  have hp1 : ah_R τ1 163 17 = some t := by rw [f1.R (Or.inr (by unfold Xot; omega))]; exact hp
  have hfill := c_fillI (σ := τ1) (a := 91) (n := 7) (mI 1) hW1 (by decide) (by omega)
  have f2 : Fr (fun a _ => 91 ≤ a ∧ a ≤ 94) τ1 (ah_fI τ1 91 0 7 (mI 1)) := Fr.rfl.fI (fun j _ _ => ⟨by omega, by omega⟩)
  have v2 : ∀ c, c < 7 → ah_I (ah_fI τ1 91 0 7 (mI 1)) 91 c = mI 1 := fun c hc => by rw [I_fI, if_pos ⟨rfl, by omega, hc⟩]
  have hstart : f_X0_layInto 163 90 (nI m) (iL (k : Int)) σ = f_X0_layInto_28 5000 163 90 (iL (k : Int)) (nI 1) (ah_fI τ1 91 0 7 (mI 1)) := by
    unfold f_X0_layInto f_X0_layInto_0
    simp only [to_bq, l_0, l_1, l_2, l_3, l_4, l_5, l_6, l_7, l_8, l_9, l_10, l_11, l_12, l_13, l_14, l_15, l_16, l_17, l_18, l_19, l_20, l_21, l_22, l_23, l_24, l_25, l_26, l_27, l_28, l_29, l_30, l_31, l_32, l_40, l_41, l_42, l_43, l_44, l_45, l_46, l_47, l_48, l_49, l_50, l_51, l_52, l_53, l_54, l_55, l_56, l_57, l_58, l_59, l_60, l_61, l_62, l_63, l_64, l_72, l_97, l_99, l_100, l_104, l_120, l_122, l_128, l_140, l_255, l_256, l_257, l_258, l_260, l_261, l_262, l_364, l_680, l_700, l_701, l_840, l_999, l_1023, l_1024, l_9999, l_10000, l_1000000, lm]
    simp (disch := first | (with_reducible assumption) | omega | exact ⟨by omega, by omega⟩ | ((with_reducible first | apply Wf.wI | apply Wf.wL | apply Wf.fL | apply Wf.fI | apply Wf.fr); (repeat (with_reducible first | assumption | apply Wf.wI | apply Wf.wL | apply Wf.fL | apply Wf.fI | apply Wf.fr)))) only [ck_163, gI_163, gL_163, pI_163, pZ0_163, pZ1_163, pL_163, gR_163_1, gR_163_2, gR_163_3, gR_163_5, gR_163_6, gR_163_7, gR_163_9, gR_163_10, gR_163_11, gR_163_12, gR_163_13, gR_163_14, gR_163_15, pR_163_17, gR_163_17, ck_90, gI_90, gL_90, pI_90, pZ0_90, pZ1_90, pL_90, gR_90_0, gR_90_1, gR_90_2, gR_90_3, gR_90_6, gR_90_8, ck_t, gI_t, gL_t, pI_t, pZ0_t, pZ1_t, pL_t, ck_w, gI_w, gL_w, pI_w, pZ0_w, pZ1_w, pL_w, gR_t_1, gR_t_5, gR_t_7, gR_t_9, gR_t_10, gR_t_11, gR_t_12, gR_t_15, gR_w_2, gR_w_3, gR_w_4, gR_w_5, gR_w_6, gR_w_7, aR_crow, aR_srow, aR_prow, aR_rrow, aI_crow, sI_crow, len_crow, aI_srow, sI_srow, len_srow, aI_prow, sI_prow, len_prow, aI_rrow, sI_rrow, len_rrow, aI_t25, sI_t25, len_t25, aI_t31, sI_t31, len_t31, aI_t32, sI_t32, len_t32, aI_t34, sI_t34, len_t34, aI_t35, sI_t35, len_t35, aI_t36, sI_t36, len_t36, aI_t37, sI_t37, len_t37, aL_t38, sL_t38, len_t38, aL_t39, sL_t39, len_t39, bq_n, bd_s, mp_s, rz_0, rz_1, bI_rz, hp, tr_riv h, if_neg hr, e1, hfill]
  rw [hstart]
  generalize ah_fI τ1 91 0 7 (mI 1) = τ2 at *
  have h2 : TR τ2 t D := h1.fr f2 (fun a j _ _ => by omega)
  have hp2 : ah_R τ2 163 17 = some t := by rw [f2.R (Or.inr (by omega))]; exact hp1
  obtain ⟨τ3, e3, f3, d3, o3⟩ := c_li28 h2 hp2 hr hk oq (by rw [f2.I (by omega)]; exact n4) (fun j hj => by rw [f2.I (by omega)]; exact n165 j hj) (fun c hc => by rw [f2.I (by omega)]; exact n164 c hc) (nC D - 1) 1 5000 τ2 (by omega) (by omega) (by omega) Fr.rfl (fun j j1 j2 => by omega) (fun c _ => rfl)
  refine ⟨τ3, e3, ((f1.mono (fun a j z => Or.inl z)).trans (f2.mono (fun a j z => Or.inr z))).trans (f3.mono (fun a j z => Or.inr z)), os, fun c hc => ⟨fun z => ?_, fun z => ?_⟩⟩
  · rw [o3 c (fun ⟨j, j1, j2, j3⟩ => ?_)]
    · exact v2 c hc
    · obtain ⟨s, s1, -⟩ := oq.2.2.2.2.2 j j1 j2
      rw [j3, z] at s1; cases s1
  · have : ∃ j, 1 ≤ j ∧ j < nC D ∧ q j = c := by
      apply Classical.byContradiction
      intro w
      exact z (oq.2.2.2.2.1 c w)
    obtain ⟨j, j1, j2, rfl⟩ := this
    exact d3 j j1 j2
theorem CJ.chg2 {D' : DD} (h : CJ σ t D) (g : Fr (fun a j => Xnn a j ∨ 160 ≤ a) σ τ) (hT : SameT D' D) (hn : MN D') (hN : NetR τ D') (hP : PastR τ D') (hf : ah_I τ 117 2 = nI 0) (e1 : D' 225 2 = D 225 2) (e2 : D' 225 31 = D 225 31) (e3 : D' 225 32 = D 225 32) : CJ τ t D' := by
  obtain ⟨⟨h1, h2, h3, h4, h5, h6⟩, -, p1, p2, ⟨p3, p4⟩, ⟨p5, p6⟩, p7⟩ := h
  have hT' : t = 2 ∨ t = 42 := h1.tn
  refine ⟨⟨(h1.fr g (fun a j _ _ => by unfold Xnn; omega)).cg (fun a z1 z2 => hT a (by omega) z2), hn, (g.R (Or.inr (by unfold Xnn; omega))).trans h3, hN, fun c hc => (g.L (by unfold Xnn; omega)).trans (h5 c hc), Or.inl hf⟩, hP, (g.R (Or.inr (by unfold Xnn; omega))).trans p1, (g.R (Or.inr (by unfold Xnn; omega))).trans p2, ⟨?_, ?_⟩, ⟨?_, ?_⟩, fun k hk => (g.I (by unfold Xnn; omega)).trans (p7 k hk)⟩
  · rw [e1]; exact (g.I (by unfold Xnn; omega)).trans p3
  · unfold tpd
    rw [e1, hT 226 (by omega) (by omega)]
    exact fun j hj => (g.I (by unfold Xnn; omega)).trans (p4 j hj)
  · rw [e2]; exact (g.I (by unfold Xnn; omega)).trans p5
  · rw [e3]; exact (g.I (by unfold Xnn; omega)).trans p6
theorem Xnn_t : ∀ a j, Xnn a j → 90 ≤ a ∧ a ≤ 117 := by
  intro a j h; unfold Xnn at h; omega
/-- cells of trees are left alone -/
theorem TI.fr {X : Nat → Nat → Prop} (h : TI σ t D) (b4 : nP D ≤ 4) (b7 : nC D ≤ 7) (g : Fr X σ τ) (hX : ∀ a j, a = 160 ∨ a = 161 ∨ a = 162 ∨ a = 163 ∧ (j = 16 ∨ j = 17) ∨ a = 167 ∨ 170 ≤ a ∧ a < 185 ∨ 189 ≤ a ∧ a < 201 ∨ a = 218 → ¬ X a j) : TI τ t D := by
  obtain ⟨⟨i1, i2, i3, i4, i5, i6⟩, i7⟩ := h
  refine ⟨⟨?_, ?_, ?_, ?_, ?_, ?_⟩, ?_⟩
  · rw [g.R (Or.inr (hX _ _ (by omega)))]; exact i1
  · rw [g.R (Or.inr (hX _ _ (by omega)))]; exact i2
  · exact i3.imp (fun z => by rw [g.I (hX _ _ (by omega))]; exact z) (fun z => z.fr b4 b7 (fun a j _ _ => g.L (hX _ _ (by omega))))
  · exact i4.fr b7 (fun c => g.I (hX _ _ (by omega))) (fun a j _ _ => g.L (hX _ _ (by omega)))
  · intro c hc; rw [g.L (hX _ _ (by omega))]; exact i5 c hc
  · exact fun k hk => (i6 k hk).imp (fun z => by rw [g.L (hX _ _ (by omega))]; exact z) (fun z => z.fr (g.L (hX _ _ (by omega))) (g.L (hX _ _ (by omega))))
  · refine i7.imp (fun z => by rw [g.I (hX _ _ (by omega))]; exact z) (fun ⟨z1, z2, z3, z4⟩ => ⟨fun k hk => (z1 k hk).fr (g.L (hX _ _ (by omega))) (g.L (hX _ _ (by omega))), by rw [g.I (hX _ _ (by omega))]; exact z2, by rw [g.I (hX _ _ (by omega))]; exact z3, by rw [g.L (hX _ _ (by omega))]; exact z4⟩)
theorem c_laid (h : CJ σ t D) (hb : CB D) (hi : TI σ t D) (hB : MB D) (z : Int32) : Ok (f_X11_laid 0 z σ) (fun r => r.1 = cI (ldQ D z) ∧ Fr (fun a j => Xse t a j ∨ Xnn a j) σ r.2 ∧ CJ r.2 t (dLdQ D z) ∧ TI r.2 t D) := by
  have hW := h.w
  have htn := h.r.tn
  have hT : t = 2 ∨ t = 42 := htn
  have b7 := h.r.t.qc7
  have b4 := h.r.t.qp4
  have h2 := p2S h.r.t
  obtain ⟨τ, e1, f1, i1, ck⟩ := c_costOf h.r hb hi z
  have hj := h.xe f1
  have hW1 := hj.w
  have f1' : Fr (fun a j => Xse t a j ∨ Xnn a j) σ τ := f1.mono (fun a j z => Or.inl z)
  have hstart : f_X11_laid 0 z σ = if nI 0 ≤ lg_cmp (sCheap D z) 0 then bq (fun r4 => bq (fun v5 => bq (fun v6 => bq (fun r7 => bq (fun v8 => bq (fun σ9 => (op_rz (nI 1)).map fun q => (q, σ9)) (Unit.unit : Unit) (op_pZ 3 2 r7 v8 (nI 0))) (Unit.unit : Unit) (op_gR 11 6 r7 0)) (Unit.unit : Unit) (f_X10_layInto v5 v6 z r4)) (Unit.unit : Unit) (op_gR 11 5 r4 0)) (Unit.unit : Unit) (op_gR 11 7 r4 0)) (Unit.unit : Unit) (f_X5_remember 90 τ) else some (nI 0, τ) := by
    unfold f_X11_laid f_X11_laid_0
    simp only [to_bq, l_0, l_1, l_2, l_3, l_4, l_5, l_6, l_7, l_8, l_9, l_10, l_11, l_12, l_13, l_14, l_15, l_16, l_17, l_18, l_19, l_20, l_21, l_22, l_23, l_24, l_25, l_26, l_27, l_28, l_29, l_30, l_31, l_32, l_40, l_41, l_42, l_43, l_44, l_45, l_46, l_47, l_48, l_49, l_50, l_51, l_52, l_53, l_54, l_55, l_56, l_57, l_58, l_59, l_60, l_61, l_62, l_63, l_64, l_72, l_97, l_99, l_100, l_104, l_120, l_122, l_128, l_140, l_255, l_256, l_257, l_258, l_260, l_261, l_262, l_364, l_680, l_700, l_701, l_840, l_999, l_1023, l_1024, l_9999, l_10000, l_1000000, lm]
    simp (disch := first | (with_reducible assumption) | omega | exact ⟨by omega, by omega⟩ | ((with_reducible first | apply Wf.wI | apply Wf.wL | apply Wf.fL | apply Wf.fI | apply Wf.fr); (repeat (with_reducible first | assumption | apply Wf.wI | apply Wf.wL | apply Wf.fL | apply Wf.fI | apply Wf.fr)))) only [ck_0, gI_0, gL_0, pI_0, pZ0_0, pZ1_0, pL_0, gR_0_0, pR_0_2, gR_0_2, pR_0_3, gR_0_3, gR_0_4, gR_0_5, gR_0_6, gR_0_7, gR_0_8, bq_n, bd_s, mp_s, rz_0, rz_1, bI_rz, e1]
  rw [hstart]
  have no : ¬ ldQ D z → Ok (some (nI 0, τ)) (fun r => r.1 = cI (ldQ D z) ∧ Fr (fun a j => Xse t a j ∨ Xnn a j) σ r.2 ∧ CJ r.2 t (dLdQ D z) ∧ TI r.2 t D) := fun w => ⟨_, rfl, by rw [cI_f w], f1', by unfold dLdQ; rw [cif_f w]; exact hj, i1⟩
  by_cases q : z < nI 0 ∨ nI (2 ^ nS D) ≤ z
  · have es : sCheap D z = iL (-1) := by unfold sCheap; rw [if_pos q]
    rw [es, if_neg (by decide : ¬ nI 0 ≤ lg_cmp (iL (-1)) 0)]
    exact no (fun w => w.1 q)
  obtain ⟨m, hm, rfl⟩ := nI_set (by omega) (fun z => q (Or.inl z)) (fun z => q (Or.inr z))
  have em : ix (nI m) = m := ix_nI (by omega)
  rw [sCheap_n h.r.t hm]
  by_cases qt : TrQ D m
  · cases e : cpv D m with
    | none =>
      rw [show cst D m = iL (-2) by unfold cst; rw [cif_t qt, e]; rfl, if_neg (by decide : ¬ nI 0 ≤ lg_cmp (iL (-2)) 0)]
      exact no (fun w => w.2.2 (by rw [em]; exact e))
    | some y =>
      have yb := hb m qt y e
      have hr4 := cpv_r e
      have hQ : ldQ D (nI m) := ⟨q, by rw [em]; exact qt, by rw [em, e]; intro w; cases w⟩
      rw [cst_s qt e, if_pos (show nI 0 ≤ lg_cmp (iL (y.1 : Int)) 0 by rw [q_0, cmp_ge ⟨by omega, by omega⟩ ⟨by omega, by omega⟩]; omega)]
      obtain ⟨ρ, g1, g2, g3, g4, g5⟩ := c_remN hj
      have hρ : TR ρ t D := hj.r.fr g2 (fun a j _ _ => by unfold Xnn; omega)
      have iρ : TI ρ t D := i1.fr b4 b7 g2 (fun a j _ => by unfold Xnn; omega)
      have ckρ : CkR ρ D m := (ck m hm rfl).fr (g2.L (by unfold Xnn; omega)) (g2.L (by unfold Xnn; omega))
      have k162 := ckρ.2 qt y e
      -- the key is a long
      obtain ⟨os⟩ : Nonempty (OrS D m (ost D m)) := ⟨(c_orient hρ iρ.1.2.1 hr4 qt).elim fun _ ⟨_, z⟩ => z.2.2.2.2.2.2⟩
      have hx0 : topF D (ost D m) noF noF noF = some y := by rw [← cpv_F hr4]; exact e
      obtain ⟨l, hl⟩ := LyT_at h.r.t os.1 hx0
      have hk : y.2 < 9223372036854775808 := by
        rw [LyT_key h.r.t os.1 hl]
        have h3 : sm (gL D l) (nC D) ≤ sm (fun _ => 1023 * 2 ^ 50) (nC D) := sm_mn _ (fun o ho => by
          by_cases w : o = riv D
          · rw [show gL D l o = 0 from if_pos w]; omega
          · rw [gL_e w]
            exact Nat.mul_le_mul (LyT_cd h.r.t os.1 hl o ho w) uD_b)
        have h4 : sm (fun _ => 1023 * 2 ^ 50) (nC D) ≤ nC D * (1023 * 2 ^ 50) := sm_k _
        have h5 : nC D * (1023 * 2 ^ 50) ≤ 7 * (1023 * 2 ^ 50) := Nat.mul_le_mul_right _ b7
        omega
      obtain ⟨τ3, e3, f3, -, d3⟩ := c_layIntoD hρ iρ.1.2.1 hr4 qt hk
      have n1 : ¬ nI m < nI 0 := by rw [lt_nI (by omega) (by omega)]; omega
      have n3 : ¬ nI 1024 ≤ nI m := by rw [le_nI (by omega) (by omega)]; omega
      have e4 : f_X10_layInto 160 90 (nI m) ρ = some τ3 := by
        unfold f_X10_layInto f_X10_layInto_0
        simp only [to_bq, l_0, l_1, l_2, l_3, l_4, l_5, l_6, l_7, l_8, l_9, l_10, l_11, l_12, l_13, l_14, l_15, l_16, l_17, l_18, l_19, l_20, l_21, l_22, l_23, l_24, l_25, l_26, l_27, l_28, l_29, l_30, l_31, l_32, l_40, l_41, l_42, l_43, l_44, l_45, l_46, l_47, l_48, l_49, l_50, l_51, l_52, l_53, l_54, l_55, l_56, l_57, l_58, l_59, l_60, l_61, l_62, l_63, l_64, l_72, l_97, l_99, l_100, l_104, l_120, l_122, l_128, l_140, l_255, l_256, l_257, l_258, l_260, l_261, l_262, l_364, l_680, l_700, l_701, l_840, l_999, l_1023, l_1024, l_9999, l_10000, l_1000000, lm]
        simp (disch := first | (with_reducible assumption) | omega | exact ⟨by omega, by omega⟩ | ((with_reducible first | apply Wf.wI | apply Wf.wL | apply Wf.fL | apply Wf.fI | apply Wf.fr); (repeat (with_reducible first | assumption | apply Wf.wI | apply Wf.wL | apply Wf.fL | apply Wf.fI | apply Wf.fr)))) only [ck_160, gI_160, gL_160, pI_160, pZ0_160, pZ1_160, pL_160, gR_160_3, gR_160_4, gR_160_5, pR_160_6, gR_160_6, aL_162, sL_162, len_162, bq_n, bd_s, mp_s, rz_0, rz_1, bI_rz, if_neg n1, if_neg n3, k162, e3]
      have hW3 : Wf τ3 := g5.fr f3
      have f4 : Fr (fun a j => Xot a j ∨ Xnn a j) ρ (ah_wI τ3 117 2 (nI 0)) := (f3.mono (fun a j z => z.imp (fun z => z) (fun z => by unfold Xnn; omega))).wI (Or.inr (by unfold Xnn; omega))
      rw [g1, bq_n]
      simp (disch := first | (with_reducible assumption) | omega | exact ⟨by omega, by omega⟩ | ((with_reducible first | apply Wf.wI | apply Wf.wL | apply Wf.fL | apply Wf.fI | apply Wf.fr); (repeat (with_reducible first | assumption | apply Wf.wI | apply Wf.wL | apply Wf.fL | apply Wf.fI | apply Wf.fr)))) only [ck_0, gI_0, gL_0, pI_0, pZ0_0, pZ1_0, pL_0, gR_0_0, pR_0_2, gR_0_2, pR_0_3, gR_0_3, gR_0_4, gR_0_5, gR_0_6, gR_0_7, gR_0_8, ck_117, gI_117, gL_117, pI_117, pZ0_117, pZ1_117, pL_117, gR_117_0, gR_117_1, gR_117_5, pR_117_6, gR_117_6, bq_n, bd_s, mp_s, rz_0, rz_1, bI_rz, e4]
      refine ⟨_, rfl, by rw [cI_t hQ], ?_, ?_, ?_⟩
      · refine (f1'.trans (g2.mono (fun a j z => Or.inr z))).trans (f4.mono (fun a j z => z.imp (fun z => ?_) (fun z => z)))
        unfold Xse Xco Xso
        exact Or.inl (Or.inl (Or.inr (Or.inl z)))
      · unfold dLdQ
        rw [cif_t hQ, em, e]
        show CJ (ah_wI τ3 117 2 (nI 0)) t (dLaid D m y.2)
        have hMB := hB.laid hr4 os hl
        have hNN : Fr (fun a j => Xnn a j ∨ 160 ≤ a) τ (ah_wI τ3 117 2 (nI 0)) := (g2.mono (fun a j z => Or.inl z)).trans (f4.mono (fun a j z => by
          rcases z with z | z
          · unfold Xot at z; exact Or.inr (by omega)
          · exact Or.inl z))
        refine hj.chg2 hNN (dLaid_t.trans (dKeep_t D)) hMB.2.1 (fun c hc => ?_) ?_ rI_eq ?_ ?_ ?_
        · rw [dLaid_8 hc, dLaid_9 hc, dLaid_10 hc, dLaid_11 hc, rI_ne (by omega), rI_ne (by omega), rI_ne (by omega), rI_ne (by omega)]
          obtain ⟨d4, d5⟩ := d3 c hc
          cases ec : ost D m c with
          | none => exact ⟨d4 ec, fun w => absurd rfl w⟩
          | some s =>
            have hcn : c < nC D := by
              apply Classical.byContradiction
              intro z
              rw [os.2 c (by omega)] at ec; cases ec
            have hcr : c ≠ riv D := fun z => by rw [z, os.1.2.1] at ec; cases ec
            obtain ⟨w1, w2, w3, w4⟩ := d5 (by rw [ec]; intro w; cases w)
            rw [if_pos ⟨hcn, hcr⟩, if_pos ⟨hcn, hcr⟩, if_pos ⟨hcn, hcr⟩, ← ec]
            exact ⟨w1, fun _ => ⟨w2, w3, w4⟩⟩
        · have := g3.fr (τ := ah_wI τ3 117 2 (nI 0)) (X := fun a j => (Xot a j ∨ 91 ≤ a ∧ a ≤ 94) ∨ a = 117) ((f3.mono (fun a j z => Or.inl z)).wI (Or.inr rfl)) (fun x j _ => by unfold Xot; omega)
          exact this.cg (dLaid_o (by omega)) (dLaid_o (by omega)) (fun x z1 z2 => funext fun j => dLaid_o (by omega))
        · rw [dLaid_o (by omega), dKeep_o D (by omega)]
        · rw [dLaid_o (by omega), dKeep_o D (by omega)]
        · rw [dLaid_o (by omega), dKeep_o D (by omega)]
      · exact iρ.fr b4 b7 f4 (fun a j _ => by unfold Xot Xnn; omega)
  · rw [show cst D m = iL (-1) by unfold cst; rw [cif_f qt], if_neg (by decide : ¬ nI 0 ≤ lg_cmp (iL (-1)) 0)]
    exact no (fun w => qt (by have := w.2.1; rw [em] at this; exact this))
end
