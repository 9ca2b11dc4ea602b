/-! THE CLASS: branches are joined -/
def NV : Int := 100000000000000000
def CRow (σ : ah_H) (D : DD) (T : Tbl) (o : Nat) : Prop := ∀ w b, w < nP D → lc D ≤ b → b ≤ mc D → Rp NV (ah_L σ (170 + o) (w * 13 + b)) (ah_L σ (170 + o) (52 + (w * 13 + b))) (cmjT T o w b) ∧ Rp NV (ah_L σ (178 + o) (w * 13 + b)) (ah_L σ (178 + o) (52 + (w * 13 + b))) (comT T o w b)
def CKid (σ : ah_H) (D : DD) (st : Nat → Option Nat) (T : Tbl) (c : Nat) : Prop := ∀ o, o < nC D → nx D st o = some c → CRow σ D T o
/-- costs and keys of branches are bounded -/
def CBd (D : DD) (st : Nat → Option Nat) (T : Tbl) (g : Nat → Nat) (c : Nat) : Prop := (∀ o, o < nC D → nx D st o = some c → ∀ v b, vb (T o v b) 1000000000000000 ∧ vk (T o v b) (g o)) ∧ sm (fun o => if nx D st o = some c then g o else 0) (nC D) < 9223372036854775808
def coT (T : Tbl) (w m o : Nat) : VV := comT T o w m
def abT (D : DD) (T : Tbl) (w m o : Nat) : VV := if lc D < m then comT T o w (m - 1) else none
def juT (T : Tbl) (w m o : Nat) : VV := cmjT T o w m
def VBk (D : DD) (st : Nat → Option Nat) (g : Nat → Nat) (c k : Nat) (X : VV) : Prop := vb X (k * 1000000000000000) ∧ vk X (sm (fun o => if nx D st o = some c then g o else 0) k)
def Xjb (at0 a j : Nat) : Prop := (a = 185 ∨ a = 186) ∧ (j = at0 ∨ j = 52 + at0)
section
variable {σ : ah_H} {t : Nat} {D : DD} {st : Nat → Option Nat} {T : Tbl} {g : Nat → Nat} {c w m : Nat}
theorem com_b (hb : CBd D st T g c) {o : Nat} (ho : o < nC D) (hx : nx D st o = some c) (w m : Nat) : vb (comT T o w m) 1000000000000000 ∧ vk (comT T o w m) (g o) := ⟨vb_mn _ (fun v _ => vb_mn _ (fun b _ => (hb.1 o ho hx v b).1)), vk_mn _ (fun v _ => vk_mn _ (fun b _ => (hb.1 o ho hx v b).2))⟩
theorem cmj_b (hb : CBd D st T g c) {o : Nat} (ho : o < nC D) (hx : nx D st o = some c) (w m : Nat) : vb (cmjT T o w m) 1000000000000000 ∧ vk (cmjT T o w m) (g o) := ⟨vb_mn _ (fun v _ => (hb.1 o ho hx v m).1), vk_mn _ (fun v _ => (hb.1 o ho hx v m).2)⟩
theorem abT_b (hb : CBd D st T g c) {o : Nat} (ho : o < nC D) (hx : nx D st o = some c) (w m : Nat) : vb (abT D T w m o) 1000000000000000 ∧ vk (abT D T w m o) (g o) := by
  unfold abT
  by_cases q : lc D < m
  · rw [if_pos q]; exact com_b hb ho hx w (m - 1)
  · rw [if_neg q]; exact ⟨vb_none _, vk_none _⟩
theorem VBk.add {k : Nat} {X Y : VV} (hX : VBk D st g c k X) (hx : nx D st k = some c) (hY : vb Y 1000000000000000 ∧ vk Y (g k)) : VBk D st g c (k + 1) (vadd X Y) := by
  refine ⟨vb_mono (vb_add hX.1 hY.1) (by omega), vk_mono (vk_add hX.2 hY.2) ?_⟩
  show _ ≤ sm (fun o => if nx D st o = some c then g o else 0) k + (if nx D st k = some c then g k else 0)
  rw [if_pos hx]; exact Nat.le_refl _
theorem VBk.skip {k : Nat} {X : VV} (hX : VBk D st g c k X) : VBk D st g c (k + 1) X := ⟨vb_mono hX.1 (by omega), vk_mono hX.2 (by show sm _ k ≤ sm _ k + _; omega)⟩
theorem VBk.lim {k : Nat} {X : VV} (hX : VBk D st g c k X) (hk : k ≤ nC D) (h7 : nC D ≤ 7) (hb : CBd D st T g c) : ∀ x, X = some x → x.1 < 100000000000000000 ∧ x.2 < 9223372036854775808 := by
  intro x e
  have h1 := hX.1 x e
  have h2 := hX.2 x e
  have h3 := sm_mono (f := fun o => if nx D st o = some c then g o else 0) hk
  have h4 := hb.2
  exact ⟨by omega, by omega⟩
theorem VBk.min {k : Nat} {X Y : VV} (hX : VBk D st g c k X) (hY : VBk D st g c k Y) : VBk D st g c k (vmin X Y) := ⟨vb_min hX.1 hY.1, vk_min hX.2 hY.2⟩
theorem dS_b (hb : CBd D st T g c) (co : Nat → VV) (hc : ∀ o, o < nC D → nx D st o = some c → vb (co o) 1000000000000000 ∧ vk (co o) (g o)) : ∀ k, k ≤ nC D → VBk D st g c k (vsm (fun o => if nx D st o = some c then co o else some (0, 0)) k) := by
  intro k
  induction k with
  | zero => intro _; exact ⟨fun x hx => by cases hx; exact Nat.le_refl _, fun x hx => by cases hx; exact Nat.le_refl _⟩
  | succ k ih =>
    intro hk
    show VBk D st g c (k + 1) (vadd (vsm (fun o => if nx D st o = some c then co o else some (0, 0)) k) (if nx D st k = some c then co k else some (0, 0)))
    by_cases q : nx D st k = some c
    · rw [if_pos q]; exact (ih (by omega)).add q (hc k (by omega) q)
    · rw [if_neg q, vadd_z]; exact (ih (by omega)).skip
theorem dD_b (hb : CBd D st T g c) (w m : Nat) : ∀ k, k ≤ nC D → VBk D st g c k (dD (nx D st) c (coT T w m) (abT D T w m) (juT T w m) k) := by
  intro k
  induction k with
  | zero => intro _; exact ⟨vb_none _, vk_none _⟩
  | succ k ih =>
    intro hk
    show VBk D st g c (k + 1) (if nx D st k = some c then _ else _)
    by_cases q : nx D st k = some c
    · rw [if_pos q]
      exact ((dS_b hb (abT D T w m) (fun o ho hx => abT_b hb ho hx w m) k (by omega)).add q (cmj_b hb (by omega) q w m)).min ((ih (by omega)).add q (com_b hb (by omega) q w m))
    · rw [if_neg q]; exact (ih (by omega)).skip
theorem c_jb22 (hW : Wf σ) (h7 : nC D ≤ 7) (hg : GaR σ D st c (nC D)) (hk0 : CKid σ D st T c) (hb : CBd D st T g c) (hm4 : mc D ≤ 12) (hw : w < nP D) (hw4 : nP D ≤ 4) (hm1 : lc D ≤ m) (hm2 : m ≤ mc D) : ∀ i k fu x3 x5 x7 x9 x11 x13, k + i = nC D → nC D - k < fu → Rp ((k + 1 : Nat) * NV) x3 x5 (dS (nx D st) c (coT T w m) k) → Rp ((k + 1 : Nat) * NV) x7 x9 (dA (nx D st) c (abT D T w m) k) → Rp ((k + 1 : Nat) * NV) x11 x13 (dD (nx D st) c (coT T w m) (abT D T w m) (juT T w m) k) → ∃ z3 z5 z11 z13, f_X0_joinBranches_22 fu 163 (nI (w * 13 + m)) (bI (lc D < m)) x3 x5 x7 x9 x11 x13 (nI (cnt (kd (nx D st) c) k)) σ = f_X0_joinBranches_191 163 (nI (w * 13 + m)) z3 z5 z11 z13 σ ∧ Rp ((nC D + 1 : Nat) * NV) z3 z5 (dS (nx D st) c (coT T w m) (nC D)) ∧ Rp ((nC D + 1 : Nat) * NV) z11 z13 (dD (nx D st) c (coT T w m) (abT D T w m) (juT T w m) (nC D)) := by
  have hat : w * 13 + m < 52 := by omega
  intro i
  induction i with
  | zero =>
    intro k fu x3 x5 x7 x9 x11 x13 hk hf r3 r7 r11
    obtain ⟨fu, rfl⟩ : ∃ q, fu = q + 1 := ⟨fu - 1, by omega⟩
    obtain rfl : k = nC D := by omega
    refine ⟨x3, x5, x11, x13, ?_, r3, r11⟩
    have hcl := cnt_le (kd (nx D st) c) (nC D)
    show f_X0_joinBranches_22_b _ _ _ _ _ _ _ _ _ _ _ _ = _
    unfold f_X0_joinBranches_22_b
    simp only [to_bq, l_0, l_1, l_2, l_3, l_4, l_5, l_6, l_7, l_8, l_9, l_10, l_11, l_12, l_13, l_14, l_15, l_16, l_17, l_18, l_19, l_20, l_21, l_22, l_23, l_24, l_25, l_26, l_27, l_28, l_29, l_30, l_31, l_32, l_40, l_41, l_42, l_43, l_44, l_45, l_46, l_47, l_48, l_49, l_50, l_51, l_52, l_53, l_54, l_55, l_56, l_57, l_58, l_59, l_60, l_61, l_62, l_63, l_64, l_72, l_97, l_99, l_100, l_104, l_120, l_122, l_128, l_140, l_255, l_256, l_257, l_258, l_260, l_261, l_262, l_364, l_680, l_700, l_701, l_840, l_999, l_1023, l_1024, l_9999, l_10000, l_1000000, lm]
    simp (disch := first | (with_reducible assumption) | omega | exact ⟨by omega, by omega⟩ | ((with_reducible first | apply Wf.wI | apply Wf.wL | apply Wf.fL | apply Wf.fI | apply Wf.fr); (repeat (with_reducible first | assumption | apply Wf.wI | apply Wf.wL | apply Wf.fL | apply Wf.fI | apply Wf.fr)))) only [ck_163, gI_163, gL_163, pI_163, pZ0_163, pZ1_163, pL_163, gR_163_1, gR_163_2, gR_163_3, gR_163_5, gR_163_6, gR_163_7, gR_163_9, gR_163_10, gR_163_11, gR_163_12, gR_163_13, gR_163_14, gR_163_15, pR_163_17, gR_163_17, bq_n, bd_s, mp_s, rz_0, rz_1, bI_rz, zadd, zmul, zsub, le_nI, lt_nI, eq_nI, neg_nI, gen_nI, neg_lt, neg_le, neg_lt', neg_le', nI_lt0, if_true, if_false, ite_true, ite_false, reduceIte, not_true, not_false, and_true, true_and, and_false, false_and, or_true, true_or, or_false, false_or, eq_self, hg.1, Nat.le_refl]
  | succ i ih =>
    intro k fu x3 x5 x7 x9 x11 x13 hk hf r3 r7 r11
    have hk' : k < nC D := by omega
    have hNV : NV = 100000000000000000 := rfl
    by_cases q : nx D st k = some c
    · obtain ⟨fu, rfl⟩ : ∃ q, fu = q + 1 := ⟨fu - 1, by omega⟩
      have hcl := cnt_le (kd (nx D st) c) (nC D)
      have hck := cnt_kt q
      have hcu := cnt_up (kd (nx D st) c) (show k + 1 ≤ nC D by omega)
      have e168 := hg.2 k hk' q
      obtain ⟨ej, eu⟩ := hk0 k hk' q w m hw hm1 hm2
      have lS := (dS_b hb (coT T w m) (fun o ho hx => com_b hb ho hx w m) k (by omega)).add q (com_b hb hk' q w m)
      have lA := (dS_b hb (abT D T w m) (fun o ho hx => abT_b hb ho hx w m) k (by omega)).add q (cmj_b hb hk' q w m)
      have lA2 := (dS_b hb (abT D T w m) (fun o ho hx => abT_b hb ho hx w m) k (by omega)).add q (abT_b hb hk' q w m)
      have lD := (dD_b hb w m k (by omega)).add q (com_b hb hk' q w m)
      have hBk : (100000000000000000 : Int) ≤ ((k + 1 : Nat) : Int) * NV := by rw [hNV]; omega
      have hBs : ((k + 1 : Nat) : Int) * NV + NV = ((k + 1 + 1 : Nat) : Int) * NV := by rw [hNV]; omega
      have hlim : ((k + 1 + 1 : Nat) : Int) * NV < 9223372036854775808 := by rw [hNV]; omega
      have aS := Rp.add r3 eu hBk (by rw [hNV]; omega) (lS.lim (by omega) h7 hb)
      have aJ := Rp.add r7 ej hBk (by rw [hNV]; omega) (lA.lim (by omega) h7 hb)
      have aD := Rp.add r11 eu hBk (by rw [hNV]; omega) (lD.lim (by omega) h7 hb)
      rw [hBs] at aS aJ aD
      have eS : dS (nx D st) c (coT T w m) (k + 1) = vadd (dS (nx D st) c (coT T w m) k) (comT T k w m) := by
        show vadd (dS (nx D st) c (coT T w m) k) (if nx D st k = some c then coT T w m k else some (0, 0)) = _
        rw [if_pos q]; rfl
      have eA : dA (nx D st) c (abT D T w m) (k + 1) = vadd (dA (nx D st) c (abT D T w m) k) (abT D T w m k) := by
        show vadd (dA (nx D st) c (abT D T w m) k) (if nx D st k = some c then abT D T w m k else some (0, 0)) = _
        rw [if_pos q]
      have eD : dD (nx D st) c (coT T w m) (abT D T w m) (juT T w m) (k + 1) = vmin (vadd (dA (nx D st) c (abT D T w m) k) (cmjT T k w m)) (vadd (dD (nx D st) c (coT T w m) (abT D T w m) (juT T w m) k) (comT T k w m)) := by
        show (if nx D st k = some c then _ else _) = _
        rw [if_pos q]; rfl
      obtain ⟨P, p1, p2, p3⟩ := c_less (σ := σ) aD aJ hlim
      rw [← eD] at p2 p3
      rw [← eS] at aS
      -- what is above
      have habove : ∃ u1 u2, (∀ s1 s2, f_X0_joinBranches_123 (f_X0_joinBranches_22 fu) 163 (nI (w * 13 + m)) (bI (lc D < m)) x3 x5 x7 x9 s1 s2 (nI (cnt (kd (nx D st) c) k)) (178 + k) σ = f_X0_joinBranches_22 fu 163 (nI (w * 13 + m)) (bI (lc D < m)) (x3 + ah_L σ (178 + k) (w * 13 + m)) (x5 + ah_L σ (178 + k) (52 + (w * 13 + m))) (x7 + u1) (x9 + u2) s1 s2 (nI (cnt (kd (nx D st) c) k + 1)) σ) ∧ Rp NV u1 u2 (abT D T w m k) := by
        by_cases ql : lc D < m
        · refine ⟨ah_L σ (178 + k) (w * 13 + m - 1), ah_L σ (178 + k) (52 + (w * 13 + m) - 1), fun s1 s2 => ?_, ?_⟩
          · unfold f_X0_joinBranches_123 f_X0_joinBranches_141 f_X0_joinBranches_163
            rw [show bI (lc D < m) = nI 1 from if_pos ql]
            simp only [to_bq, l_0, l_1, l_2, l_3, l_4, l_5, l_6, l_7, l_8, l_9, l_10, l_11, l_12, l_13, l_14, l_15, l_16, l_17, l_18, l_19, l_20, l_21, l_22, l_23, l_24, l_25, l_26, l_27, l_28, l_29, l_30, l_31, l_32, l_40, l_41, l_42, l_43, l_44, l_45, l_46, l_47, l_48, l_49, l_50, l_51, l_52, l_53, l_54, l_55, l_56, l_57, l_58, l_59, l_60, l_61, l_62, l_63, l_64, l_72, l_97, l_99, l_100, l_104, l_120, l_122, l_128, l_140, l_255, l_256, l_257, l_258, l_260, l_261, l_262, l_364, l_680, l_700, l_701, l_840, l_999, l_1023, l_1024, l_9999, l_10000, l_1000000, lm]
            rw [if_neg (show ¬ nI 1 = nI 0 by decide)]
            simp (disch := first | (with_reducible assumption) | omega | exact ⟨by omega, by omega⟩ | ((with_reducible first | apply Wf.wI | apply Wf.wL | apply Wf.fL | apply Wf.fI | apply Wf.fr); (repeat (with_reducible first | assumption | apply Wf.wI | apply Wf.wL | apply Wf.fL | apply Wf.fI | apply Wf.fr)))) only [bq_n, bd_s, mp_s, rz_0, rz_1, bI_rz, zadd, zmul, zsub, le_nI, lt_nI, eq_nI, neg_nI, gen_nI, neg_lt, neg_le, neg_lt', neg_le', nI_lt0, if_true, if_false, ite_true, ite_false, reduceIte, not_true, not_false, and_true, true_and, and_false, false_and, or_true, true_or, or_false, false_or, eq_self, Nat.reduceEqDiff, Nat.reduceAdd, Nat.reduceMul, Nat.reduceSub, Nat.reduceLT, Nat.reduceLeDiff, Nat.add_sub_cancel, Nat.zero_add, Nat.add_zero, Nat.mul_zero, Nat.zero_mul, aL_under]
          · unfold abT
            rw [if_pos ql]
            have := (hk0 k hk' q w (m - 1) hw (by omega) (by omega)).2
            rw [show w * 13 + m - 1 = w * 13 + (m - 1) by omega, show 52 + (w * 13 + m) - 1 = 52 + (w * 13 + (m - 1)) by omega]
            exact this
        · refine ⟨iL 100000000000000000, iL 0, fun s1 s2 => ?_, ?_⟩
          · unfold f_X0_joinBranches_123 f_X0_joinBranches_141 f_X0_joinBranches_163
            rw [show bI (lc D < m) = nI 0 from if_neg ql]
            simp only [to_bq, l_0, l_1, l_2, l_3, l_4, l_5, l_6, l_7, l_8, l_9, l_10, l_11, l_12, l_13, l_14, l_15, l_16, l_17, l_18, l_19, l_20, l_21, l_22, l_23, l_24, l_25, l_26, l_27, l_28, l_29, l_30, l_31, l_32, l_40, l_41, l_42, l_43, l_44, l_45, l_46, l_47, l_48, l_49, l_50, l_51, l_52, l_53, l_54, l_55, l_56, l_57, l_58, l_59, l_60, l_61, l_62, l_63, l_64, l_72, l_97, l_99, l_100, l_104, l_120, l_122, l_128, l_140, l_255, l_256, l_257, l_258, l_260, l_261, l_262, l_364, l_680, l_700, l_701, l_840, l_999, l_1023, l_1024, l_9999, l_10000, l_1000000, lm]
            rw [if_pos trivial, if_pos trivial, q_0, q_100000000000000000]
            simp (disch := first | (with_reducible assumption) | omega | exact ⟨by omega, by omega⟩ | ((with_reducible first | apply Wf.wI | apply Wf.wL | apply Wf.fL | apply Wf.fI | apply Wf.fr); (repeat (with_reducible first | assumption | apply Wf.wI | apply Wf.wL | apply Wf.fL | apply Wf.fI | apply Wf.fr)))) only [bq_n, bd_s, mp_s, rz_0, rz_1, bI_rz, zadd, zmul, zsub, le_nI, lt_nI, eq_nI, neg_nI, gen_nI, neg_lt, neg_le, neg_lt', neg_le', nI_lt0, aL_under]
          · unfold abT
            rw [if_neg ql]
            exact ⟨100000000000000000, rfl, by omega, by rw [hNV]; omega⟩
      obtain ⟨u1, u2, hu, ru⟩ := habove
      have aA := Rp.add r7 ru hBk (by rw [hNV]; omega) (lA2.lim (by omega) h7 hb)
      rw [hBs, ← eA] at aA
      have he : ∃ s1 s2, f_X0_joinBranches_22 (fu + 1) 163 (nI (w * 13 + m)) (bI (lc D < m)) x3 x5 x7 x9 x11 x13 (nI (cnt (kd (nx D st) c) k)) σ = f_X0_joinBranches_22 fu 163 (nI (w * 13 + m)) (bI (lc D < m)) (x3 + ah_L σ (178 + k) (w * 13 + m)) (x5 + ah_L σ (178 + k) (52 + (w * 13 + m))) (x7 + u1) (x9 + u2) s1 s2 (nI (cnt (kd (nx D st) c) k + 1)) σ ∧ Rp (((k + 1 + 1 : Nat) : Int) * NV) s1 s2 (dD (nx D st) c (coT T w m) (abT D T w m) (juT T w m) (k + 1)) := by
        have e0 : ∀ y, f_X0_joinBranches_22 (fu + 1) 163 (nI (w * 13 + m)) (bI (lc D < m)) x3 x5 x7 x9 x11 x13 (nI (cnt (kd (nx D st) c) k)) σ = y ↔ (if cI P = nI 0 then f_X0_joinBranches_123 (f_X0_joinBranches_22 fu) 163 (nI (w * 13 + m)) (bI (lc D < m)) x3 x5 x7 x9 (x7 + ah_L σ (170 + k) (w * 13 + m)) (x9 + ah_L σ (170 + k) (52 + (w * 13 + m))) (nI (cnt (kd (nx D st) c) k)) (178 + k) σ else f_X0_joinBranches_123 (f_X0_joinBranches_22 fu) 163 (nI (w * 13 + m)) (bI (lc D < m)) x3 x5 x7 x9 (x11 + ah_L σ (178 + k) (w * 13 + m)) (x13 + ah_L σ (178 + k) (52 + (w * 13 + m))) (nI (cnt (kd (nx D st) c) k)) (178 + k) σ) = y := by
          intro y
          show f_X0_joinBranches_22_b _ _ _ _ _ _ _ _ _ _ _ _ = y ↔ _
          unfold f_X0_joinBranches_22_b
          simp only [to_bq, l_0, l_1, l_2, l_3, l_4, l_5, l_6, l_7, l_8, l_9, l_10, l_11, l_12, l_13, l_14, l_15, l_16, l_17, l_18, l_19, l_20, l_21, l_22, l_23, l_24, l_25, l_26, l_27, l_28, l_29, l_30, l_31, l_32, l_40, l_41, l_42, l_43, l_44, l_45, l_46, l_47, l_48, l_49, l_50, l_51, l_52, l_53, l_54, l_55, l_56, l_57, l_58, l_59, l_60, l_61, l_62, l_63, l_64, l_72, l_97, l_99, l_100, l_104, l_120, l_122, l_128, l_140, l_255, l_256, l_257, l_258, l_260, l_261, l_262, l_364, l_680, l_700, l_701, l_840, l_999, l_1023, l_1024, l_9999, l_10000, l_1000000, lm]
          simp (disch := first | (with_reducible assumption) | omega | exact ⟨by omega, by omega⟩ | ((with_reducible first | apply Wf.wI | apply Wf.wL | apply Wf.fL | apply Wf.fI | apply Wf.fr); (repeat (with_reducible first | assumption | apply Wf.wI | apply Wf.wL | apply Wf.fL | apply Wf.fI | apply Wf.fr)))) only [ck_163, gI_163, gL_163, pI_163, pZ0_163, pZ1_163, pL_163, gR_163_1, gR_163_2, gR_163_3, gR_163_5, gR_163_6, gR_163_7, gR_163_9, gR_163_10, gR_163_11, gR_163_12, gR_163_13, gR_163_14, gR_163_15, pR_163_17, gR_163_17, aI_168, sI_168, len_168, bq_n, bd_s, mp_s, rz_0, rz_1, bI_rz, zadd, zmul, zsub, le_nI, lt_nI, eq_nI, neg_nI, gen_nI, neg_lt, neg_le, neg_lt', neg_le', nI_lt0, if_true, if_false, ite_true, ite_false, reduceIte, not_true, not_false, and_true, true_and, and_false, false_and, or_true, true_or, or_false, false_or, eq_self, hg.1, show (cnt (kd (nx D st) c) (nC D) ≤ cnt (kd (nx D st) c) k) = False from eq_false (by omega), e168, aR_exact, aR_under, aL_exact, aL_under, p1]
        by_cases qP : P
        · refine ⟨_, _, (e0 _).mpr ?_, p2 qP⟩
          rw [if_neg (by rw [cI_0]; exact fun z => z qP), hu]
        · refine ⟨_, _, (e0 _).mpr ?_, p3 qP⟩
          rw [if_pos (by rw [cI_0]; exact qP), hu]
      obtain ⟨s1, s2, he1, he2⟩ := he
      rw [he1, ← hck]
      exact ih (k + 1) fu _ _ _ _ _ _ (by omega) (by omega) aS aA he2
    · rw [← cnt_kf q]
      have hmono : ((k + 1 : Nat) : Int) * NV ≤ ((k + 1 + 1 : Nat) : Int) * NV := by rw [hNV]; omega
      have eS : dS (nx D st) c (coT T w m) (k + 1) = dS (nx D st) c (coT T w m) k := by
        show vadd (dS (nx D st) c (coT T w m) k) (if nx D st k = some c then coT T w m k else some (0, 0)) = _
        rw [if_neg q, vadd_z]
      have eA : dA (nx D st) c (abT D T w m) (k + 1) = dA (nx D st) c (abT D T w m) k := by
        show vadd (dA (nx D st) c (abT D T w m) k) (if nx D st k = some c then abT D T w m k else some (0, 0)) = _
        rw [if_neg q, vadd_z]
      have eD : dD (nx D st) c (coT T w m) (abT D T w m) (juT T w m) (k + 1) = dD (nx D st) c (coT T w m) (abT D T w m) (juT T w m) k := by
        show (if nx D st k = some c then _ else _) = _
        rw [if_neg q]
      exact ih (k + 1) fu _ _ _ _ _ _ (by omega) (by omega) (by rw [eS]; exact r3.mono hmono) (by rw [eA]; exact r7.mono hmono) (by rw [eD]; exact r11.mono hmono)
end
