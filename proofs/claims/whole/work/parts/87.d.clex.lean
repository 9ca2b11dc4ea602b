/-! THE CLASS: tokens -/
def bvt (c : Nat) : Int32 := vp_nar .byte (nI c)
theorem bvt_t : ∀ c, c < 256 → bvt c = if c < 128 then nI c else mI (256 - c) := by decide +kernel
theorem bvt_n {c k : Nat} (hc : c ≤ 255) (hk : k < 128) : (bvt c = nI k) = (c = k) := by
  rw [bvt_t c (by omega)]
  by_cases q : c < 128
  · rw [if_pos q, eq_nI (by omega) (by omega)]
  · rw [if_neg q]
    refine propext ⟨fun z => ?_, fun z => by omega⟩
    have z := z.symm
    rw [neg_nI (by omega) (by omega) (by omega)] at z; exact z.elim
theorem bvt_s {c : Nat} (h : c < 128) : bvt c = nI c := by rw [bvt_t c (by omega), if_pos h]
def LxC (σ : ah_H) (T : Nat → Nat) (n : Nat) : Prop := Wf σ ∧ n ≤ 700 ∧ ah_I σ 83 5 = nI n ∧ (∀ j, j < n → ah_I σ 1 j = bvt (T j) ∧ T j ≤ 255) ∧ ∀ k, k < 24 → ah_I σ 84 k = kyv k
/-- a word's number, in the class -/
def ckw (w : Nat) : Nat := if w < 15 then w else if w < 18 then w + 6 else w - 3
/-- a sign's number, in the class -/
def sgc (v : Nat) : Nat := if v = 59 then 30 else if v = 40 then 31 else if v = 41 then 32 else sgm v
def CTk (k : TK) (ki va : Int32) : Prop := (tS k = 0 ∧ ki = nI 2 ∧ va = nI (ckw (tV k))) ∨ (tS k = 1 ∧ ki = nI 1 ∧ va = nI (tV k)) ∨ (tS k = 2 ∧ ki = nI 3 ∧ ∃ v, v ≤ 1000000 ∧ va = nI v ∧ (v = tV k ∨ 9999 < v ∧ 9999 < tV k)) ∨ (tS k = 3 ∧ ki = nI 4 ∧ va = nI (sgc (tV k))) ∨ (tS k = 4 ∧ ki = nI 0) ∨ (tS k = 5 ∧ ki = nI 5)
def Xct (a j : Nat) : Prop := a = 83 ∧ (j = 6 ∨ j = 8 ∨ j = 9 ∨ j = 10)
/-- what is cut -/
def CCt (τ : ah_H) (k : TK) : Prop := CTk k (ah_I τ 83 8) (ah_I τ 83 9) ∧ ah_I τ 83 10 = nI (tP k) ∧ ah_I τ 83 6 = nI (tN k)
section
variable {σ τ : ah_H} {T : Nat → Nat} {n p q e : Nat}
theorem LxC.fr (h : LxC σ T n) (g : Fr Xct σ τ) : LxC τ T n := ⟨h.1.fr g, h.2.1, by rw [g.I (by unfold Xct; omega)]; exact h.2.2.1, fun j hj => by rw [g.I (by unfold Xct; omega)]; exact h.2.2.2.1 j hj, fun k hk => by rw [g.I (by unfold Xct; omega)]; exact h.2.2.2.2 k hk⟩
theorem c_isLetter {c : Nat} (hc : c ≤ 255) : f_X8_isLetter (bvt c) σ = some (cI (isSm c), σ) := by
  unfold f_X8_isLetter f_X8_isLetter_0
  simp only [to_bq, l_0, l_1, l_2, l_3, l_4, l_5, l_6, l_7, l_8, l_9, l_10, l_11, l_12, l_13, l_14, l_15, l_16, l_17, l_18, l_19, l_20, l_21, l_22, l_23, l_24, l_25, l_26, l_27, l_28, l_29, l_30, l_31, l_32, l_40, l_41, l_42, l_43, l_44, l_45, l_46, l_47, l_48, l_49, l_50, l_51, l_52, l_53, l_54, l_55, l_56, l_57, l_58, l_59, l_60, l_61, l_62, l_63, l_64, l_72, l_97, l_99, l_100, l_104, l_120, l_122, l_128, l_140, l_255, l_256, l_257, l_258, l_260, l_261, l_262, l_364, l_680, l_700, l_701, l_840, l_999, l_1023, l_1024, l_9999, l_10000, l_1000000, lm]
  rw [bvt_t c (by omega)]
  by_cases q : c < 128
  · rw [if_pos q]
    simp (disch := first | (with_reducible assumption) | omega | exact ⟨by omega, by omega⟩ | ((with_reducible first | apply Wf.wI | apply Wf.wL | apply Wf.fL | apply Wf.fI | apply Wf.fr); (repeat (with_reducible first | assumption | apply Wf.wI | apply Wf.wL | apply Wf.fL | apply Wf.fI | apply Wf.fr)))) only [lt_nI, mp_s, rz_0, rz_1]
    by_cases q1 : c < 97
    · rw [if_pos q1, cI_f (fun z => by unfold isSm at z; omega)]
    · rw [if_neg q1]
      by_cases q2 : 122 < c
      · rw [if_pos q2, cI_f (fun z => by unfold isSm at z; omega)]
      · rw [if_neg q2, cI_t (by unfold isSm; omega)]
  · rw [if_neg q, if_pos (by rw [neg_lt (by omega) (by omega) (by omega)]; trivial), cI_f (fun z => by unfold isSm at z; omega)]; rfl
theorem c_isDigitL {c : Nat} (hc : c ≤ 255) : f_X8_isDigit (bvt c) σ = some (cI (isDg c), σ) := by
  unfold f_X8_isDigit f_X8_isDigit_0
  simp only [to_bq, l_0, l_1, l_2, l_3, l_4, l_5, l_6, l_7, l_8, l_9, l_10, l_11, l_12, l_13, l_14, l_15, l_16, l_17, l_18, l_19, l_20, l_21, l_22, l_23, l_24, l_25, l_26, l_27, l_28, l_29, l_30, l_31, l_32, l_40, l_41, l_42, l_43, l_44, l_45, l_46, l_47, l_48, l_49, l_50, l_51, l_52, l_53, l_54, l_55, l_56, l_57, l_58, l_59, l_60, l_61, l_62, l_63, l_64, l_72, l_97, l_99, l_100, l_104, l_120, l_122, l_128, l_140, l_255, l_256, l_257, l_258, l_260, l_261, l_262, l_364, l_680, l_700, l_701, l_840, l_999, l_1023, l_1024, l_9999, l_10000, l_1000000, lm]
  rw [bvt_t c (by omega)]
  by_cases q : c < 128
  · rw [if_pos q]
    simp (disch := first | (with_reducible assumption) | omega | exact ⟨by omega, by omega⟩ | ((with_reducible first | apply Wf.wI | apply Wf.wL | apply Wf.fL | apply Wf.fI | apply Wf.fr); (repeat (with_reducible first | assumption | apply Wf.wI | apply Wf.wL | apply Wf.fL | apply Wf.fI | apply Wf.fr)))) only [lt_nI, mp_s, rz_0, rz_1]
    by_cases q1 : c < 48
    · rw [if_pos q1, cI_f (fun z => by unfold isDg at z; omega)]
    · rw [if_neg q1]
      by_cases q2 : 57 < c
      · rw [if_pos q2, cI_f (fun z => by unfold isDg at z; omega)]
      · rw [if_neg q2, cI_t (by unfold isDg; omega)]
  · rw [if_neg q, if_pos (by rw [neg_lt (by omega) (by omega) (by omega)]; trivial), cI_f (fun z => by unfold isDg at z; omega)]; rfl
/-! keys -/
def kfd (V : Nat) : Nat → Nat → Option Nat
  | _, 0 => none
  | k, m + 1 => if kyl.getD k 0 = V then some k else kfd V (k + 1) m
theorem kfd_w : ∀ w, w < 24 → kfd (KW w) 0 24 = some (ckw w) := by decide +kernel
def wck (k : Nat) : Nat := if k < 15 then k else if k < 21 then k + 3 else k - 6
theorem wck_k : ∀ k, k < 24 → kyl.getD k 0 = KW (wck k) ∧ wck k < 24 := by decide +kernel
theorem kfd_in {V : Nat} : ∀ m k j, kfd V k m = some j → k ≤ j ∧ j < k + m ∧ kyl.getD j 0 = V := by
  intro m
  induction m with
  | zero => intro k j h; cases h
  | succ m ih =>
    intro k j h
    unfold kfd at h
    by_cases z : kyl.getD k 0 = V
    · rw [if_pos z] at h; cases h; exact ⟨Nat.le_refl _, by omega, z⟩
    · rw [if_neg z] at h
      have := ih (k + 1) j h
      exact ⟨by omega, by omega, this.2.2⟩
theorem kyl_b : ∀ k, k < 24 → kyl.getD k 0 < 1073741824 := by decide +kernel
theorem c_cw101 {V : Nat} (hV : V < 1073741824) (h : LxC σ T n) (h8 : ah_I σ 83 8 = nI 1) (h9 : ah_I σ 83 9 = nI V) : ∀ m k fu, k + m = 24 → m + 1 < fu → f_X8_cutWord_101 fu 83 (nI k) σ = some (match kfd V k m with
    | some j => ah_wI (ah_wI σ 83 8 (nI 2)) 83 9 (nI j)
    | none => σ) := by
  have hW := h.1
  intro m
  induction m with
  | zero =>
    intro k fu hk hf
    obtain ⟨fu, rfl⟩ : ∃ q, fu = q + 1 := ⟨fu - 1, by omega⟩
    show f_X8_cutWord_101_b _ _ _ _ = _
    unfold f_X8_cutWord_101_b
    simp only [to_bq, l_0, l_1, l_2, l_3, l_4, l_5, l_6, l_7, l_8, l_9, l_10, l_11, l_12, l_13, l_14, l_15, l_16, l_17, l_18, l_19, l_20, l_21, l_22, l_23, l_24, l_25, l_26, l_27, l_28, l_29, l_30, l_31, l_32, l_40, l_41, l_42, l_43, l_44, l_45, l_46, l_47, l_48, l_49, l_50, l_51, l_52, l_53, l_54, l_55, l_56, l_57, l_58, l_59, l_60, l_61, l_62, l_63, l_64, l_72, l_97, l_99, l_100, l_104, l_120, l_122, l_128, l_140, l_255, l_256, l_257, l_258, l_260, l_261, l_262, l_364, l_680, l_700, l_701, l_840, l_999, l_1023, l_1024, l_9999, l_10000, l_1000000, lm]
    simp (disch := first | (with_reducible assumption) | omega | exact ⟨by omega, by omega⟩ | ((with_reducible first | apply Wf.wI | apply Wf.wL | apply Wf.fL | apply Wf.fI | apply Wf.fr); (repeat (with_reducible first | assumption | apply Wf.wI | apply Wf.wL | apply Wf.fL | apply Wf.fI | apply Wf.fr)))) only [ck_83, gI_83, gL_83, pI_83, pZ0_83, pZ1_83, pL_83, gR_83_0, gR_83_1, gR_83_2, gR_83_3, gR_83_4, bq_n, bd_s, mp_s, rz_0, rz_1, bI_rz, h8, if_true, if_false, ite_true, ite_false, reduceIte, not_true, not_false, and_true, true_and, and_false, false_and, or_true, true_or, or_false, false_or, eq_self, le_nI, show (24 ≤ k) = True from eq_true (by omega)]
    rfl
  | succ m ih =>
    intro k fu hk hf
    obtain ⟨fu, rfl⟩ : ∃ q, fu = q + 1 := ⟨fu - 1, by omega⟩
    have e84 := h.2.2.2.2 k (by omega)
    have kb := kyl_b k (by omega)
    show f_X8_cutWord_101_b _ _ _ _ = _
    unfold f_X8_cutWord_101_b f_X8_cutWord_138
    simp only [to_bq, l_0, l_1, l_2, l_3, l_4, l_5, l_6, l_7, l_8, l_9, l_10, l_11, l_12, l_13, l_14, l_15, l_16, l_17, l_18, l_19, l_20, l_21, l_22, l_23, l_24, l_25, l_26, l_27, l_28, l_29, l_30, l_31, l_32, l_40, l_41, l_42, l_43, l_44, l_45, l_46, l_47, l_48, l_49, l_50, l_51, l_52, l_53, l_54, l_55, l_56, l_57, l_58, l_59, l_60, l_61, l_62, l_63, l_64, l_72, l_97, l_99, l_100, l_104, l_120, l_122, l_128, l_140, l_255, l_256, l_257, l_258, l_260, l_261, l_262, l_364, l_680, l_700, l_701, l_840, l_999, l_1023, l_1024, l_9999, l_10000, l_1000000, lm]
    simp (disch := first | (with_reducible assumption) | omega | exact ⟨by omega, by omega⟩ | ((with_reducible first | apply Wf.wI | apply Wf.wL | apply Wf.fL | apply Wf.fI | apply Wf.fr); (repeat (with_reducible first | assumption | apply Wf.wI | apply Wf.wL | apply Wf.fL | apply Wf.fI | apply Wf.fr)))) only [ck_83, gI_83, gL_83, pI_83, pZ0_83, pZ1_83, pL_83, gR_83_0, gR_83_1, gR_83_2, gR_83_3, gR_83_4, aI_84, sI_84, len_84, bq_n, bd_s, mp_s, rz_0, rz_1, bI_rz, h8, if_true, if_false, ite_true, ite_false, reduceIte, not_true, not_false, and_true, true_and, and_false, false_and, or_true, true_or, or_false, false_or, eq_self, le_nI, show (24 ≤ k) = False from eq_false (by omega), e84, h9]
    have ek : (kyv k = nI V) = (kyl.getD k 0 = V) := eq_nI (by omega) (by omega)
    unfold kfd
    by_cases z : kyl.getD k 0 = V
    · rw [if_pos (by rw [ek]; exact z), if_pos z]
      simp (disch := first | (with_reducible assumption) | omega | exact ⟨by omega, by omega⟩ | ((with_reducible first | apply Wf.wI | apply Wf.wL | apply Wf.fL | apply Wf.fI | apply Wf.fr); (repeat (with_reducible first | assumption | apply Wf.wI | apply Wf.wL | apply Wf.fL | apply Wf.fI | apply Wf.fr)))) only [ck_83, gI_83, gL_83, pI_83, pZ0_83, pZ1_83, pL_83, gR_83_0, gR_83_1, gR_83_2, gR_83_3, gR_83_4, bq_n, bd_s, mp_s, rz_0, rz_1, bI_rz, zadd]
      obtain ⟨fu, rfl⟩ : ∃ q, fu = q + 1 := ⟨fu - 1, by omega⟩
      show f_X8_cutWord_101_b _ _ _ _ = _
      unfold f_X8_cutWord_101_b
      simp only [to_bq, l_0, l_1, l_2, l_3, l_4, l_5, l_6, l_7, l_8, l_9, l_10, l_11, l_12, l_13, l_14, l_15, l_16, l_17, l_18, l_19, l_20, l_21, l_22, l_23, l_24, l_25, l_26, l_27, l_28, l_29, l_30, l_31, l_32, l_40, l_41, l_42, l_43, l_44, l_45, l_46, l_47, l_48, l_49, l_50, l_51, l_52, l_53, l_54, l_55, l_56, l_57, l_58, l_59, l_60, l_61, l_62, l_63, l_64, l_72, l_97, l_99, l_100, l_104, l_120, l_122, l_128, l_140, l_255, l_256, l_257, l_258, l_260, l_261, l_262, l_364, l_680, l_700, l_701, l_840, l_999, l_1023, l_1024, l_9999, l_10000, l_1000000, lm]
      simp (disch := first | (with_reducible assumption) | omega | exact ⟨by omega, by omega⟩ | ((with_reducible first | apply Wf.wI | apply Wf.wL | apply Wf.fL | apply Wf.fI | apply Wf.fr); (repeat (with_reducible first | assumption | apply Wf.wI | apply Wf.wL | apply Wf.fL | apply Wf.fI | apply Wf.fr)))) only [ck_83, gI_83, gL_83, pI_83, pZ0_83, pZ1_83, pL_83, gR_83_0, gR_83_1, gR_83_2, gR_83_3, gR_83_4, bq_n, bd_s, mp_s, rz_0, rz_1, bI_rz, rI_ne, rI_eq, rL_ne, rL_eq, ah_I_wL, ah_L_wI, ah_R_wI, ah_R_wL, ah_I_wR, ah_L_wR, rR_ne, rR_eq, show (nI 2 = nI 1) = False from eq_false (by decide), if_true, if_false, ite_true, ite_false, reduceIte, not_true, not_false, and_true, true_and, and_false, false_and, or_true, true_or, or_false, false_or, eq_self]
    · rw [if_neg (by rw [ek]; exact z), if_neg z, zadd]
      exact ih (k + 1) fu (by omega) (by omega)
/-! words by their letters -/
def fld5 (d : Nat → Nat) : Nat → Nat
  | 0 => 0
  | k + 1 => fld5 d k * 32 + d k
theorem fld5_inj {d d' : Nat → Nat} : ∀ k, (∀ i, i < k → d i < 32 ∧ d' i < 32) → fld5 d k = fld5 d' k → ∀ i, i < k → d i = d' i := by
  intro k
  induction k with
  | zero => intro _ _ i hi; omega
  | succ k ih =>
    intro hb h i hi
    have h : fld5 d k * 32 + d k = fld5 d' k * 32 + d' k := h
    have b := hb k (by omega)
    by_cases q : i = k
    · rw [q]; omega
    · exact ih (fun i hi => hb i (by omega)) (by omega) i (by omega)
theorem fld5_cg {d d' : Nat → Nat} : ∀ k, (∀ i, i < k → d i = d' i) → fld5 d k = fld5 d' k := by
  intro k
  induction k with
  | zero => intro _; rfl
  | succ k ih =>
    intro h
    show fld5 d k * 32 + d k = fld5 d' k * 32 + d' k
    rw [ih (fun i hi => h i (by omega)), h k (by omega)]
theorem pkf_fld : ∀ k, pkf T q e k = fld5 (pkd T q e) k := by
  intro k
  induction k with
  | zero => rfl
  | succ k ih => show pkf T q e k * 32 + _ = _; rw [ih]; rfl
def dWd (w k : Nat) : Nat := if k < wln w then WC w k - 96 else 0
theorem KW_fld : ∀ w, w < 24 → KW w = fld5 (dWd w) 6 := by decide +kernel
theorem dWd_b {w k : Nat} (hw : w < 24) : dWd w k < 32 := by
  unfold dWd
  by_cases z : k < wln w
  · have := wTc w hw k z
    rw [if_pos z]; omega
  · rw [if_neg z]; omega
theorem eqW_pk (hl : ∀ j, q ≤ j → j < e → isSm (T j)) (h6 : e - q ≤ 6) (hqe : q ≤ e) {w : Nat} (hw : w < 24) : eqW T q e w ↔ pkf T q e 6 = KW w := by
  have hpd : ∀ k, k < e - q → pkd T q e k = T (q + k) - 96 ∧ 97 ≤ T (q + k) ∧ T (q + k) ≤ 122 := fun k hk => by
    have := hl (q + k) (by omega) (by omega)
    unfold isSm at this
    unfold pkd
    rw [if_pos (by omega)]; exact ⟨rfl, this⟩
  have hp0 : ∀ k, ¬ k < e - q → pkd T q e k = 0 := fun k hk => by unfold pkd; rw [if_neg (by omega)]
  have hpb : ∀ k, pkd T q e k < 32 := fun k => by
    by_cases z : k < e - q
    · have := hpd k z; omega
    · rw [hp0 k z]; omega
  have hw6 := (wT w hw).1
  rw [KW_fld w hw, pkf_fld]
  constructor
  · rintro ⟨h1, h2⟩
    refine fld5_cg 6 (fun i hi => ?_)
    unfold dWd
    by_cases z : i < wln w
    · rw [if_pos z, (hpd i (by omega)).1, h2 i z]
    · rw [if_neg z, hp0 i (by omega)]
  · intro h
    have hd := fld5_inj 6 (fun i _ => ⟨hpb i, dWd_b hw⟩) h
    have hlen : e - q = wln w := by
      rcases Nat.lt_trichotomy (e - q) (wln w) with z | z | z
      · have h1 := hd (e - q) (by omega)
        rw [hp0 _ (by omega)] at h1
        unfold dWd at h1
        rw [if_pos z] at h1
        have := wTc w hw (e - q) z
        omega
      · exact z
      · have h1 := hd (wln w) (by omega)
        have h2 := hpd (wln w) z
        unfold dWd at h1
        rw [if_neg (by omega)] at h1
        omega
    refine ⟨hlen, fun i hi => ?_⟩
    have h1 := hd i (by omega)
    have h2 := hpd i (by omega)
    have h3 := wTc w hw i hi
    unfold dWd at h1
    rw [if_pos hi] at h1
    omega
theorem wdf_in : ∀ m k w, wdf T q e k m = some w → k ≤ w ∧ w < k + m ∧ eqW T q e w := by
  intro m
  induction m with
  | zero => intro k w h; cases h
  | succ m ih =>
    intro k w h
    unfold wdf at h
    by_cases z : eqW T q e k
    · rw [if_pos z] at h; cases h; exact ⟨Nat.le_refl _, by omega, z⟩
    · rw [if_neg z] at h
      have := ih (k + 1) w h
      exact ⟨by omega, by omega, this.2.2⟩
theorem wdf_no : ∀ m k, wdf T q e k m = none → ∀ w, k ≤ w → w < k + m → ¬ eqW T q e w := by
  intro m
  induction m with
  | zero => intro k _ w h1 h2; omega
  | succ m ih =>
    intro k h w h1 h2
    unfold wdf at h
    by_cases z : eqW T q e k
    · rw [if_pos z] at h; cases h
    · rw [if_neg z] at h
      by_cases y : w = k
      · rw [y]; exact z
      · exact ih (k + 1) h w (by omega) (by omega)
theorem kfd_wdx (hl : ∀ j, q ≤ j → j < e → isSm (T j)) (h6 : e - q ≤ 6) (hqe : q ≤ e) : kfd (pkf T q e 6) 0 24 = (wdx T q e).map ckw := by
  cases ew : wdx T q e with
  | some w =>
    obtain ⟨-, h1, h2⟩ := wdf_in 24 0 w ew
    rw [(eqW_pk hl h6 hqe (by omega)).mp h2, kfd_w w (by omega)]; rfl
  | none =>
    cases ek : kfd (pkf T q e 6) 0 24 with
    | none => rfl
    | some k =>
      obtain ⟨-, h1, h2⟩ := kfd_in 24 0 k ek
      obtain ⟨h3, h4⟩ := wck_k k (by omega)
      exact absurd ((eqW_pk hl h6 hqe h4).mpr (h2.symm.trans h3)) (wdf_no 24 0 ew (wck k) (by omega) (by omega))
/-- a word too long is none -/
theorem wdx_long (h6 : ¬ e - q ≤ 6) : wdx T q e = none := by
  cases ew : wdx T q e with
  | none => rfl
  | some w =>
    obtain ⟨-, h1, h2⟩ := wdf_in 24 0 w ew
    have := (wT w (by omega)).1
    have := h2.1
    omega
end
