/-! THE CLASS: changes -/
section
variable {D D' : DD}
def SameN (D' D : DD) : Prop := ∀ a, 227 ≤ a → a ≤ 251 → D' a = D a
theorem kst_cg (e4 : D' 244 = D 244) (e5 : D' 245 = D 245) (nm : Nat → Int) (i : Nat) (s : List Int) : kst D' nm i s = kst D nm i s := by
  unfold kst; rw [e4, e5]
theorem evl_cg (e4 : D' 244 = D 244) (e5 : D' 245 = D 245) (nm : Nat → Int) : ∀ m i s, evl D' nm i m s = evl D nm i m s := by
  intro m
  induction m with
  | zero => intro i s; rfl
  | succ m ih =>
    intro i s
    show (kst D' nm i s).bind _ = (kst D nm i s).bind _
    rw [kst_cg e4 e5]
    congr 1
    exact funext fun x => ih (i + 1) x
theorem TM_cg (e : ∀ a, 227 ≤ a → a ≤ 245 → D' a = D a) : nC D' = nC D ∧ nS D' = nS D ∧ nP D' = nP D ∧ nR D' = nR D ∧ lf D' = lf D ∧ mf D' = mf D ∧ lc D' = lc D ∧ mc D' = mc D ∧ ct D' = ct D ∧ nK D' = nK D ∧ hgt D' = hgt D ∧ are D' = are D ∧ rck D' = rck D ∧ sA D' = sA D ∧ sB D' = sB D ∧ len D' = len D ∧ hrs D' = hrs D ∧ rsk D' = rsk D ∧ wid D' = wid D ∧ pri D' = pri D ∧ rnh D' = rnh D ∧ rnv D' = rnv D ∧ lfr D' = lfr D ∧ lto D' = lto D ∧ oth D' = oth D := by
  have e0 := e 227 (by omega) (by omega)
  have e2 := e 229 (by omega) (by omega)
  have e3 := e 230 (by omega) (by omega)
  have e4 := e 231 (by omega) (by omega)
  have e5 := e 232 (by omega) (by omega)
  have e6 := e 233 (by omega) (by omega)
  have e7 := e 234 (by omega) (by omega)
  have e8 := e 235 (by omega) (by omega)
  have e9 := e 236 (by omega) (by omega)
  have e10 := e 237 (by omega) (by omega)
  have e11 := e 238 (by omega) (by omega)
  have e12 := e 240 (by omega) (by omega)
  have e13 := e 241 (by omega) (by omega)
  have e14 := e 242 (by omega) (by omega)
  have e15 := e 243 (by omega) (by omega)
  have eA : sA D' = sA D := by funext s; unfold sA; rw [e5]
  have eB : sB D' = sB D := by funext s; unfold sB; rw [e6]
  refine ⟨by unfold nC; rw [e0], by unfold nS; rw [e0], by unfold nP; rw [e0], by unfold nR; rw [e0], by unfold lf; rw [e0], by unfold mf; rw [e0], by unfold lc; rw [e0], by unfold mc; rw [e0], by unfold ct; rw [e0], by unfold nK; rw [e0], by funext c; unfold hgt; rw [e2], by funext c; unfold are; rw [e3], by funext c; unfold rck; rw [e4], eA, eB, by funext c; unfold len; rw [e7], by funext c; unfold hrs; rw [e8], by funext c; unfold rsk; rw [e9], by funext c; unfold wid; rw [e10], by funext c; unfold pri; rw [e11], by funext c; unfold rnh; rw [e12], by funext r q; unfold rnv; rw [e13], by funext c; unfold lfr; rw [e14], by funext c; unfold lto; rw [e15], by funext s c; unfold oth; rw [eA, eB]⟩
theorem TR.cg {σ : ah_H} {t : Nat} (h : TR σ t D) (e : ∀ a, 227 ≤ a → a ≤ 245 → D' a = D a) : TR σ t D' := by
  obtain ⟨h1, h2, h3, h4, h5⟩ := h
  have e0 := e 227 (by omega) (by omega)
  have e1 := e 228 (by omega) (by omega)
  have e16 := e 239 (by omega) (by omega)
  have e4 := e 244 (by omega) (by omega)
  have e5 := e 245 (by omega) (by omega)
  obtain ⟨r1, r2, r3, r4, r5, r6, r7, r8, r9, r10, r11, r12, r13, r14, r15, r16, r17, r18, r19, r20, r21, r22, r23, r24, r25⟩ := TM_cg e
  refine ⟨h1, h2, h3.congr e, ?_, ?_⟩
  · unfold TF at *
    rw [r1, r2, r3, r4, r5, r6, r7, r8, r9, r10, e0]
    exact h4
  · unfold TRows at *
    rw [r1, r2, r3, r4, r10, r11, r12, r13, r14, r15, r16, r17, r18, r19, r20, r21, r22, r23, r24, e1, e16, e4, e5]
    exact h5
theorem told_cg (e : ∀ a, 227 ≤ a → a ≤ 245 → D' a = D a) (k : Nat) : told D' k ↔ told D k := by
  obtain ⟨r1, r2, r3, r4, r5, r6, r7, r8, r9, r10, r11, r12, r13, r14, r15, r16, r17, r18, r19, r20, r21, r22, r23, r24, r25⟩ := TM_cg e
  unfold told
  rw [r23, r24]
theorem carv_cg (e : ∀ a, 227 ≤ a → a ≤ 245 → D' a = D a) (w : Nat) (f : Int) : carv D' w f = carv D w f := by
  obtain ⟨r1, r2, r3, r4, r5, r6, r7, r8, r9, r10, r11, r12, r13, r14, r15, r16, r17, r18, r19, r20, r21, r22, r23, r24, r25⟩ := TM_cg e
  have ht := told_cg e 0
  unfold carv
  by_cases q : told D 0
  · rw [if_pos q, if_pos (ht.mpr q)]
    unfold lawv
    rw [r23, r24, evl_cg (e 244 (by omega) (by omega)) (e 245 (by omega) (by omega))]
  · rw [if_neg q, if_neg (fun z => q (ht.mp z))]
theorem SN_st (e : SameN D' D) : stD D' = stD D := by
  funext c; unfold stD; rw [e 248 (by omega) (by omega)]
theorem SN_FF (e : SameN D' D) {st : Nat → Option Nat} {cp : Nat → Nat} {r c u : Nat} : FF D' st cp r c u = FF D st cp r c u := by
  obtain ⟨r1, r2, r3, r4, r5, r6, r7, r8, r9, r10, r11, r12, r13, r14, r15, r16, r17, r18, r19, r20, r21, r22, r23, r24, r25⟩ := TM_cg (fun a h1 h2 => e a h1 (by omega))
  have q1 : nx D' st = nx D st := by funext c; unfold nx; rw [r25]
  have q2 : hr D' st = hr D st := by funext c; unfold hr; rw [r17]
  have q3 : ra D' r = ra D r := by funext c u; unfold ra; rw [r21, r12, r22]
  unfold FF
  rw [r1, q1, q2, q3]
theorem SN_cap (e : SameN D' D) : capD D' = capD D := by
  obtain ⟨r1, r2, r3, r4, r5, r6, r7, r8, r9, r10, r11, r12, r13, r14, r15, r16, r17, r18, r19, r20, r21, r22, r23, r24, r25⟩ := TM_cg (fun a h1 h2 => e a h1 (by omega))
  funext c
  unfold capD carD fallZ
  rw [SN_st e]
  simp only [carv_cg (fun a h1 h2 => e a h1 (by omega)), r11, r16, r19, r25, e 249 (by omega) (by omega), e 250 (by omega) (by omega), e 251 (by omega) (by omega)]
theorem SN_FD {σ : ah_H} {f c : Nat} {cp : Nat → Nat} (e : SameN D' D) (h : FD σ f D (stD D) cp c) : FD σ f D' (stD D') cp c := by
  obtain ⟨r1, r2, r3, r4, r5, r6, r7, r8, r9, r10, r11, r12, r13, r14, r15, r16, r17, r18, r19, r20, r21, r22, r23, r24, r25⟩ := TM_cg (fun a h1 h2 => e a h1 (by omega))
  have q1 : nx D' (stD D) = nx D (stD D) := by funext c; unfold nx; rw [r25]
  have q2 : wat D' (stD D) cp c = wat D (stD D) cp c := by
    funext j; unfold wat; rw [q1, r1, SN_FF e]
  have q3 : ∀ r u, fld D' (stD D) cp r c u = fld D (stD D) cp r c u := fun r u => by
    unfold fld; rw [q1, r1, SN_FF e]
  rw [SN_st e]
  unfold FD at *
  rw [r4, q2]
  simp only [q3]
  exact h
theorem JE.cg {σ : ah_H} {t : Nat} (h : JE σ t D) (e : SameN D' D) (hn : MN D') : JE σ t D' := by
  obtain ⟨h1, h2, h3, h4, h5, h6⟩ := h
  refine ⟨h1.cg (fun a z1 z2 => e a z1 (by omega)), hn, h3, ?_, h5, ?_⟩
  · unfold NetR at *
    rw [e 248 (by omega) (by omega), e 249 (by omega) (by omega), e 250 (by omega) (by omega), e 251 (by omega) (by omega)]
    exact h4
  · rcases h6 with q | ⟨q1, q2, q3, q4⟩
    · exact Or.inl q
    · have r1 := (TM_cg (fun a h1 h2 => e a h1 (by omega))).1
      refine Or.inr ⟨q1, q2, ?_, ?_⟩
      · rw [r1]; exact fun c hc => SN_FD e (q3 c hc)
      · rw [r1, SN_cap e]; exact fun c hc => SN_FD e (q4 c hc)
theorem PastR.cg {σ : ah_H} (h : PastR σ D) (e1 : D' 225 52 = D 225 52) (e2 : D' 225 57 = D 225 57) (e : ∀ a, 255 ≤ a → a ≤ 262 → D' a = D a) : PastR σ D' := by
  unfold PastR km at *
  rw [e1, e2, e 255 (by omega) (by omega), e 256 (by omega) (by omega), e 257 (by omega) (by omega), e 258 (by omega) (by omega), e 259 (by omega) (by omega), e 260 (by omega) (by omega), e 261 (by omega) (by omega), e 262 (by omega) (by omega)]
  exact h
end
section
variable {σ : ah_H} {t : Nat} {D D' : DD}
/-- what changes of the net write -/
def Xnn (a j : Nat) : Prop := 90 ≤ a ∧ a ≤ 116 ∨ a = 117 ∧ j = 2
theorem CJ.chg {τ : ah_H} (h : CJ σ t D) (g : Fr Xnn σ τ) (hT : SameT D' D) (hn : MN D') (hN : NetR τ D') (hP : PastR τ D') (hf : ah_I τ 117 2 = nI 0) (e1 : D' 225 2 = D 225 2) (e2 : D' 225 31 = D 225 31) (e3 : D' 225 32 = D 225 32) : CJ τ t D' := by
  obtain ⟨⟨h1, h2, h3, h4, h5, h6⟩, -, p1, p2, ⟨p3, p4⟩, ⟨p5, p6⟩, p7⟩ := h
  have hT' : t = 2 ∨ t = 42 := h1.tn
  refine ⟨⟨(h1.fr g (fun a j _ _ => by unfold Xnn; omega)).cg (fun a z1 z2 => hT a (by omega) z2), hn, (g.R (Or.inr (by unfold Xnn; omega))).trans h3, hN, fun c hc => (g.L (by unfold Xnn; omega)).trans (h5 c hc), Or.inl hf⟩, hP, (g.R (Or.inr (by unfold Xnn; omega))).trans p1, (g.R (Or.inr (by unfold Xnn; omega))).trans p2, ⟨?_, ?_⟩, ⟨?_, ?_⟩, fun k hk => (g.I (by unfold Xnn; omega)).trans (p7 k hk)⟩
  · rw [e1]; exact (g.I (by unfold Xnn; omega)).trans p3
  · unfold tpd
    rw [e1, hT 226 (by omega) (by omega)]
    exact fun j hj => (g.I (by unfold Xnn; omega)).trans (p4 j hj)
  · rw [e2]; exact (g.I (by unfold Xnn; omega)).trans p5
  · rw [e3]; exact (g.I (by unfold Xnn; omega)).trans p6
theorem Xm_n : ∀ a j, Xm a j → Xnn a j := by
  intro a j h; unfold Xm at h; unfold Xnn; omega
theorem SameT.trans {D'' : DD} (h1 : SameT D'' D') (h2 : SameT D' D) : SameT D'' D := fun a z1 z2 => (h1 a z1 z2).trans (h2 a z1 z2)
def CC {α : Type} (σ : ah_H) (t : Nat) (D' : DD) (v : α) (r : α × ah_H) : Prop := r.1 = v ∧ Fr Xnn σ r.2 ∧ CJ r.2 t D'
theorem c_remN (h : CJ σ t D) : ∃ ρ, f_X5_remember 90 σ = some ρ ∧ Fr Xnn σ ρ ∧ PastR ρ (dKeep D) ∧ NetR ρ (dKeep D) ∧ Wf ρ := by
  obtain ⟨ρ, g1, g2, g3⟩ := c_remember h.w h.1.2.2.2.1 h.2.1 h.n
  refine ⟨ρ, g1, g2.mono Xm_n, g3, ?_, h.w.fr g2⟩
  have := h.1.2.2.2.1.fr g2 (fun a j _ _ => by unfold Xm; omega)
  unfold NetR at *
  intro c hc
  rw [dKeep_o D (by omega), dKeep_o D (by omega), dKeep_o D (by omega), dKeep_o D (by omega)]
  exact this c hc
theorem c_lay (h : CJ σ t D) (c s p a b : Int32) (hB : MB D) : Ok (f_X11_lay 0 c s p a b σ) (CC σ t (dLayQ D c s p a b) (cI (layQ D c s p a b))) := by
  have hw := h.w
  have htn := h.r.tn
  have b1 := h.r.bd
  have no : ¬ layQ D c s p a b → Ok (some (nI 0, σ)) (CC σ t (dLayQ D c s p a b) (cI (layQ D c s p a b))) := fun z => ⟨_, rfl, by rw [cI_f z], Fr.rfl, by unfold dLayQ; rw [cif_f z]; exact h⟩
  unfold f_X11_lay f_X11_lay_0
  simp only [to_bq, l_0, l_1, l_2, l_3, l_4, l_5, l_6, l_7, l_8, l_9, l_10, l_11, l_12, l_13, l_14, l_15, l_16, l_17, l_18, l_19, l_20, l_21, l_22, l_23, l_24, l_25, l_26, l_27, l_28, l_29, l_30, l_31, l_32, l_40, l_41, l_42, l_43, l_44, l_45, l_46, l_47, l_48, l_49, l_50, l_51, l_52, l_53, l_54, l_55, l_56, l_57, l_58, l_59, l_60, l_61, l_62, l_63, l_64, l_72, l_97, l_99, l_100, l_104, l_120, l_122, l_128, l_140, l_255, l_256, l_257, l_258, l_260, l_261, l_262, l_364, l_680, l_700, l_701, l_840, l_999, l_1023, l_1024, l_9999, l_10000, l_1000000, lm]
  simp (disch := first | (with_reducible assumption) | omega | exact ⟨by omega, by omega⟩ | ((with_reducible first | apply Wf.wI | apply Wf.wL | apply Wf.fL | apply Wf.fI | apply Wf.fr); (repeat (with_reducible first | assumption | apply Wf.wI | apply Wf.wL | apply Wf.fL | apply Wf.fI | apply Wf.fr)))) only [ck_0, gI_0, gL_0, pI_0, pZ0_0, pZ1_0, pL_0, gR_0_0, pR_0_2, gR_0_2, pR_0_3, gR_0_3, gR_0_4, gR_0_5, gR_0_6, gR_0_7, gR_0_8, bq_s, bd_s, mp_s, rz_0, rz_1, bI_rz, h.2.2.1, c_isCorner' h.r, bI_0, ite_n]
  by_cases q1 : okC D c
  · rw [if_pos q1]
    obtain ⟨k, hk, rfl⟩ := okC_of h.r.t q1
    have ek : ix (nI k) = k := ix_nI (by omega)
    simp (disch := first | (with_reducible assumption) | omega | exact ⟨by omega, by omega⟩ | ((with_reducible first | apply Wf.wI | apply Wf.wL | apply Wf.fL | apply Wf.fI | apply Wf.fr); (repeat (with_reducible first | assumption | apply Wf.wI | apply Wf.wL | apply Wf.fL | apply Wf.fI | apply Wf.fr)))) only [ck_0, gI_0, gL_0, pI_0, pZ0_0, pZ1_0, pL_0, gR_0_0, pR_0_2, gR_0_2, pR_0_3, gR_0_3, gR_0_4, gR_0_5, gR_0_6, gR_0_7, gR_0_8, ck_t, gI_t, gL_t, pI_t, pZ0_t, pZ1_t, pL_t, ck_w, gI_w, gL_w, pI_w, pZ0_w, pZ1_w, pL_w, gR_t_1, gR_t_5, gR_t_7, gR_t_9, gR_t_10, gR_t_11, gR_t_12, gR_t_15, gR_w_2, gR_w_3, gR_w_4, gR_w_5, gR_w_6, gR_w_7, aR_crow, aR_srow, aR_prow, aR_rrow, aI_crow, sI_crow, len_crow, aI_srow, sI_srow, len_srow, aI_prow, sI_prow, len_prow, aI_rrow, sI_rrow, len_rrow, aI_t25, sI_t25, len_t25, aI_t31, sI_t31, len_t31, aI_t32, sI_t32, len_t32, aI_t34, sI_t34, len_t34, aI_t35, sI_t35, len_t35, aI_t36, sI_t36, len_t36, aI_t37, sI_t37, len_t37, aL_t38, sL_t38, len_t38, aL_t39, sL_t39, len_t39, bq_s, bd_s, mp_s, rz_0, rz_1, bI_rz, h.2.2.1, tr_riv h.r]
    by_cases q2 : nI k = D 227 4
    · rw [if_pos q2]; exact no (fun z => z.2.1 q2)
    rw [if_neg q2]
    simp (disch := first | (with_reducible assumption) | omega | exact ⟨by omega, by omega⟩ | ((with_reducible first | apply Wf.wI | apply Wf.wL | apply Wf.fL | apply Wf.fI | apply Wf.fr); (repeat (with_reducible first | assumption | apply Wf.wI | apply Wf.wL | apply Wf.fL | apply Wf.fI | apply Wf.fr)))) only [ck_0, gI_0, gL_0, pI_0, pZ0_0, pZ1_0, pL_0, gR_0_0, pR_0_2, gR_0_2, pR_0_3, gR_0_3, gR_0_4, gR_0_5, gR_0_6, gR_0_7, gR_0_8, bq_s, bd_s, mp_s, rz_0, rz_1, bI_rz, h.2.2.1, c_isStreet' h.r, bI_0, ite_n]
    by_cases q3 : okS D s
    · rw [if_pos q3]
      obtain ⟨e, he, rfl⟩ := okS_of h.r.t q3
      have ee : ix (nI e) = e := ix_nI (by omega)
      simp (disch := first | (with_reducible assumption) | omega | exact ⟨by omega, by omega⟩ | ((with_reducible first | apply Wf.wI | apply Wf.wL | apply Wf.fL | apply Wf.fI | apply Wf.fr); (repeat (with_reducible first | assumption | apply Wf.wI | apply Wf.wL | apply Wf.fL | apply Wf.fI | apply Wf.fr)))) only [ck_0, gI_0, gL_0, pI_0, pZ0_0, pZ1_0, pL_0, gR_0_0, pR_0_2, gR_0_2, pR_0_3, gR_0_3, gR_0_4, gR_0_5, gR_0_6, gR_0_7, gR_0_8, bq_s, bd_s, mp_s, rz_0, rz_1, bI_rz, h.2.2.1, c_isPipe' h.r, bI_0, ite_n]
      by_cases q5 : okP D p
      · rw [if_pos q5]
        simp (disch := first | (with_reducible assumption) | omega | exact ⟨by omega, by omega⟩ | ((with_reducible first | apply Wf.wI | apply Wf.wL | apply Wf.fL | apply Wf.fI | apply Wf.fr); (repeat (with_reducible first | assumption | apply Wf.wI | apply Wf.wL | apply Wf.fL | apply Wf.fI | apply Wf.fr)))) only [ck_0, gI_0, gL_0, pI_0, pZ0_0, pZ1_0, pL_0, gR_0_0, pR_0_2, gR_0_2, pR_0_3, gR_0_3, gR_0_4, gR_0_5, gR_0_6, gR_0_7, gR_0_8, bq_s, bd_s, mp_s, rz_0, rz_1, bI_rz, h.2.2.1, c_touches h.r he (show k < 7 by omega), bI_0, ite_n]
        by_cases q4 : sA D e = k ∨ sB D e = k
        · rw [if_pos q4]
          by_cases q7 : a < nI 0
          · rw [if_pos q7]; exact no (fun z => z.2.2.2.2.2.1.1 q7)
          rw [if_neg q7]
          by_cases q8 : nI 12 < a
          · rw [if_pos q8]; exact no (fun z => z.2.2.2.2.2.1.2 q8)
          rw [if_neg q8]
          by_cases q9 : b < nI 0
          · rw [if_pos q9]; exact no (fun z => z.2.2.2.2.2.2.1 q9)
          rw [if_neg q9]
          by_cases q10 : b ≤ nI 12
          · rw [if_pos q10]
            have hq : layQ D (nI k) (nI e) p a b := ⟨q1, q2, q3, by rw [ek, ee]; exact q4, q5, ⟨q7, q8⟩, ⟨q9, Int32.not_lt.mpr q10⟩⟩
            obtain ⟨ρ, g1, g2, g3, g4, g5⟩ := c_remN h
            have k7 : k < 7 := by omega
            rw [g1, bq_s]
            unfold f_X5_put f_X5_put_0
            simp only [to_bq, l_0, l_1, l_2, l_3, l_4, l_5, l_6, l_7, l_8, l_9, l_10, l_11, l_12, l_13, l_14, l_15, l_16, l_17, l_18, l_19, l_20, l_21, l_22, l_23, l_24, l_25, l_26, l_27, l_28, l_29, l_30, l_31, l_32, l_40, l_41, l_42, l_43, l_44, l_45, l_46, l_47, l_48, l_49, l_50, l_51, l_52, l_53, l_54, l_55, l_56, l_57, l_58, l_59, l_60, l_61, l_62, l_63, l_64, l_72, l_97, l_99, l_100, l_104, l_120, l_122, l_128, l_140, l_255, l_256, l_257, l_258, l_260, l_261, l_262, l_364, l_680, l_700, l_701, l_840, l_999, l_1023, l_1024, l_9999, l_10000, l_1000000, lm]
            simp (disch := first | (with_reducible assumption) | omega | exact ⟨by omega, by omega⟩ | ((with_reducible first | apply Wf.wI | apply Wf.wL | apply Wf.fL | apply Wf.fI | apply Wf.fr); (repeat (with_reducible first | assumption | apply Wf.wI | apply Wf.wL | apply Wf.fL | apply Wf.fI | apply Wf.fr)))) only [ck_0, gI_0, gL_0, pI_0, pZ0_0, pZ1_0, pL_0, gR_0_0, pR_0_2, gR_0_2, pR_0_3, gR_0_3, gR_0_4, gR_0_5, gR_0_6, gR_0_7, gR_0_8, ck_90, gI_90, gL_90, pI_90, pZ0_90, pZ1_90, pL_90, gR_90_0, gR_90_1, gR_90_2, gR_90_3, gR_90_6, gR_90_8, ck_117, gI_117, gL_117, pI_117, pZ0_117, pZ1_117, pL_117, gR_117_0, gR_117_1, gR_117_5, pR_117_6, gR_117_6, bq_s, bd_s, mp_s, rz_0, rz_1, bI_rz, sI_91, sI_92, sI_93, sI_94]
            have f3 : Fr Xnn σ (ah_wI (ah_wI (ah_wI (ah_wI (ah_wI ρ 91 k (nI e)) 92 k p) 93 k a) 94 k b) 117 2 (nI 0)) := ((((g2.wI (by unfold Xnn; omega)).wI (by unfold Xnn; omega)).wI (by unfold Xnn; omega)).wI (by unfold Xnn; omega)).wI (by unfold Xnn; omega)
            refine ⟨_, rfl, by rw [cI_t hq], f3, ?_⟩
            have hMB := hB.layQ hq
            have hs : SameT (dLay (dKeep D) (ix (nI k)) (nI e) p a b) (dKeep D) := dLay_t _ _ _ _ _
            unfold dLayQ
            rw [cif_t hq]
            refine h.chg f3 (hs.trans (dKeep_t D)) hMB.2.1 ?_ ?_ rI_eq ?_ ?_ ?_
            · intro c hc
              rw [ek]
              have g4c := g4 c hc
              unfold dLay
              simp only [ah_I_wI, if_true, if_false, ite_true, ite_false, reduceIte, not_true, not_false, and_true, true_and, and_false, false_and, or_true, true_or, or_false, false_or, eq_self]
              by_cases z : c = k
              · simp only [z, if_true, if_false, ite_true, ite_false, reduceIte, not_true, not_false, and_true, true_and, and_false, false_and, or_true, true_or, or_false, false_or, eq_self, Nat.reduceEqDiff]
                exact fun _ => trivial
              · simp only [z, if_true, if_false, ite_true, ite_false, reduceIte, not_true, not_false, and_true, true_and, and_false, false_and, or_true, true_or, or_false, false_or, eq_self, Nat.reduceEqDiff]
                exact g4c
            · have := g3.fr (τ := ah_wI (ah_wI (ah_wI (ah_wI (ah_wI ρ 91 k (nI e)) 92 k p) 93 k a) 94 k b) 117 2 (nI 0)) (X := fun x _ => 91 ≤ x ∧ x ≤ 94 ∨ x = 117) (((((Fr.rfl.wI (by omega)).wI (by omega)).wI (by omega)).wI (by omega)).wI (by omega)) (fun x j _ => by omega)
              exact this.cg (dLay_o (by omega)) (dLay_o (by omega)) (fun x z1 z2 => funext fun j => dLay_o (by omega))
            · rw [dLay_o (by omega), dKeep_o D (by omega)]
            · rw [dLay_o (by omega), dKeep_o D (by omega)]
            · rw [dLay_o (by omega), dKeep_o D (by omega)]
          · rw [if_neg q10]; exact no (fun z => z.2.2.2.2.2.2.2 (Int32.not_le.mp q10))
        · rw [if_neg q4]; exact no (fun z => q4 (by have := z.2.2.2.1; rw [ek, ee] at this; exact this))
      · rw [if_neg q5]; exact no (fun z => q5 z.2.2.2.2.1)
    · rw [if_neg q3]; exact no (fun z => q3 z.2.2.1)
  · rw [if_neg q1]; exact no (fun z => q1 z.1)
theorem c_take (h : CJ σ t D) (c : Int32) (hB : MB D) : Ok (f_X11_take 0 c σ) (CC σ t (dTakeQ D c) (bI (laidQ D c))) := by
  have hw := h.w
  have b1 := h.r.bd
  unfold f_X11_take f_X11_take_0 dTakeQ
  simp only [to_bq, l_0, l_1, l_2, l_3, l_4, l_5, l_6, l_7, l_8, l_9, l_10, l_11, l_12, l_13, l_14, l_15, l_16, l_17, l_18, l_19, l_20, l_21, l_22, l_23, l_24, l_25, l_26, l_27, l_28, l_29, l_30, l_31, l_32, l_40, l_41, l_42, l_43, l_44, l_45, l_46, l_47, l_48, l_49, l_50, l_51, l_52, l_53, l_54, l_55, l_56, l_57, l_58, l_59, l_60, l_61, l_62, l_63, l_64, l_72, l_97, l_99, l_100, l_104, l_120, l_122, l_128, l_140, l_255, l_256, l_257, l_258, l_260, l_261, l_262, l_364, l_680, l_700, l_701, l_840, l_999, l_1023, l_1024, l_9999, l_10000, l_1000000, lm]
  simp (disch := first | (with_reducible assumption) | omega | exact ⟨by omega, by omega⟩ | ((with_reducible first | apply Wf.wI | apply Wf.wL | apply Wf.fL | apply Wf.fI | apply Wf.fr); (repeat (with_reducible first | assumption | apply Wf.wI | apply Wf.wL | apply Wf.fL | apply Wf.fI | apply Wf.fr)))) only [ck_0, gI_0, gL_0, pI_0, pZ0_0, pZ1_0, pL_0, gR_0_0, pR_0_2, gR_0_2, pR_0_3, gR_0_3, gR_0_4, gR_0_5, gR_0_6, gR_0_7, gR_0_8, bq_s, bd_s, mp_s, rz_0, rz_1, bI_rz, c_hasPipe h, bI_0, ite_n]
  by_cases q : laidQ D c
  · rw [if_pos q, if_pos q]
    obtain ⟨k, s, hk, rfl, ek, hx⟩ := laidQ_of' h.r.t q
    obtain ⟨ρ, g1, g2, g3, g4, g5⟩ := c_remN h
    have k7 : k < 7 := by omega
    rw [g1, bq_s]
    simp (disch := first | (with_reducible assumption) | omega | exact ⟨by omega, by omega⟩ | ((with_reducible first | apply Wf.wI | apply Wf.wL | apply Wf.fL | apply Wf.fI | apply Wf.fr); (repeat (with_reducible first | assumption | apply Wf.wI | apply Wf.wL | apply Wf.fL | apply Wf.fI | apply Wf.fr)))) only [ck_0, gI_0, gL_0, pI_0, pZ0_0, pZ1_0, pL_0, gR_0_0, pR_0_2, gR_0_2, pR_0_3, gR_0_3, gR_0_4, gR_0_5, gR_0_6, gR_0_7, gR_0_8, ck_90, gI_90, gL_90, pI_90, pZ0_90, pZ1_90, pL_90, gR_90_0, gR_90_1, gR_90_2, gR_90_3, gR_90_6, gR_90_8, ck_117, gI_117, gL_117, pI_117, pZ0_117, pZ1_117, pL_117, gR_117_0, gR_117_1, gR_117_5, pR_117_6, gR_117_6, bq_s, bd_s, mp_s, rz_0, rz_1, bI_rz, sI_91, lm]
    have f3 : Fr Xnn σ (ah_wI (ah_wI ρ 91 k (mI 1)) 117 2 (nI 0)) := (g2.wI (by unfold Xnn; omega)).wI (by unfold Xnn; omega)
    refine ⟨_, rfl, by unfold bI; rw [if_pos q], f3, ?_⟩
    rw [ek]
    have hs : SameT (dLay (dKeep D) k (mI 1) (dKeep D 249 k) (dKeep D 250 k) (dKeep D 251 k)) (dKeep D) := dLay_t _ _ _ _ _
    refine h.chg f3 (hs.trans (dKeep_t D)) (hB.takeQ k).2.1 ?_ ?_ rI_eq ?_ ?_ ?_
    · intro c hc
      have g4c := g4 c hc
      unfold dLay
      simp only [ah_I_wI, if_true, if_false, ite_true, ite_false, reduceIte, not_true, not_false, and_true, true_and, and_false, false_and, or_true, true_or, or_false, false_or, eq_self]
      by_cases z : c = k
      · simp only [z, if_true, if_false, ite_true, ite_false, reduceIte, not_true, not_false, and_true, true_and, and_false, false_and, or_true, true_or, or_false, false_or, eq_self, Nat.reduceEqDiff]
        exact fun w => absurd rfl w
      · simp only [z, if_true, if_false, ite_true, ite_false, reduceIte, not_true, not_false, and_true, true_and, and_false, false_and, or_true, true_or, or_false, false_or, eq_self, Nat.reduceEqDiff]
        exact g4c
    · have := g3.fr (τ := ah_wI (ah_wI ρ 91 k (mI 1)) 117 2 (nI 0)) (X := fun x _ => 91 ≤ x ∧ x ≤ 94 ∨ x = 117) ((Fr.rfl.wI (by omega)).wI (by omega)) (fun x j _ => by omega)
      exact this.cg (dLay_o (by omega)) (dLay_o (by omega)) (fun x z1 z2 => funext fun j => dLay_o (by omega))
    · rw [dLay_o (by omega), dKeep_o D (by omega)]
    · rw [dLay_o (by omega), dKeep_o D (by omega)]
    · rw [dLay_o (by omega), dKeep_o D (by omega)]
  · rw [if_neg q, if_neg q]
    exact ⟨_, rfl, by unfold bI; rw [if_neg q], Fr.rfl, h⟩
theorem c_undo (h : CJ σ t D) (hB : MB D) : Ok (f_X11_undo 0 σ) (CC σ t (dUndoQ D) (sUndo D)) := by
  have hw := h.w
  have h20 := h.n.qk20
  obtain ⟨p1, ⟨o, ho, p2, p3⟩, p4, p5⟩ := h.2.1
  rw [h.n.qkm] at p1
  unfold f_X11_undo f_X11_undo_0 sUndo dUndoQ
  simp only [to_bq, l_0, l_1, l_2, l_3, l_4, l_5, l_6, l_7, l_8, l_9, l_10, l_11, l_12, l_13, l_14, l_15, l_16, l_17, l_18, l_19, l_20, l_21, l_22, l_23, l_24, l_25, l_26, l_27, l_28, l_29, l_30, l_31, l_32, l_40, l_41, l_42, l_43, l_44, l_45, l_46, l_47, l_48, l_49, l_50, l_51, l_52, l_53, l_54, l_55, l_56, l_57, l_58, l_59, l_60, l_61, l_62, l_63, l_64, l_72, l_97, l_99, l_100, l_104, l_120, l_122, l_128, l_140, l_255, l_256, l_257, l_258, l_260, l_261, l_262, l_364, l_680, l_700, l_701, l_840, l_999, l_1023, l_1024, l_9999, l_10000, l_1000000, lm]
  rw [ck_0 hw, gR_0_5 hw, bq_s, gI_90 (j := 4) hw, bq_s, p1]
  by_cases q : km D = 0
  · rw [if_pos (by rw [q]), if_pos q, if_pos q]
    exact ⟨_, rfl, rfl, Fr.rfl, h⟩
  · rw [if_neg (by rw [eq_nI (by omega) (by omega)]; exact q), if_neg q, if_neg q, bq_s]
    have hw1 := hw.wI 90 4 (nI (km D - 1))
    have hrow := S0_past (c := (o + (km D - 1)) % 20) (by omega)
    have e4 : ah_I (ah_wI σ 90 4 (nI (km D - 1))) 90 4 = nI (km D - 1) := rI_eq
    have e7 : ah_I (ah_wI σ 90 4 (nI (km D - 1))) 90 7 = nI o := (rI_ne (Or.inr (by omega))).trans p2
    have gb : f_X5_goBack 90 σ = some (rdF (ah_wI σ 90 4 (nI (km D - 1))) (96 + (o + (km D - 1)) % 20)) := by
      unfold f_X5_goBack f_X5_goBack_0
      simp only [to_bq, l_0, l_1, l_2, l_3, l_4, l_5, l_6, l_7, l_8, l_9, l_10, l_11, l_12, l_13, l_14, l_15, l_16, l_17, l_18, l_19, l_20, l_21, l_22, l_23, l_24, l_25, l_26, l_27, l_28, l_29, l_30, l_31, l_32, l_40, l_41, l_42, l_43, l_44, l_45, l_46, l_47, l_48, l_49, l_50, l_51, l_52, l_53, l_54, l_55, l_56, l_57, l_58, l_59, l_60, l_61, l_62, l_63, l_64, l_72, l_97, l_99, l_100, l_104, l_120, l_122, l_128, l_140, l_255, l_256, l_257, l_258, l_260, l_261, l_262, l_364, l_680, l_700, l_701, l_840, l_999, l_1023, l_1024, l_9999, l_10000, l_1000000, lm]
      rw [ck_90 hw, gI_90 (j := 4) hw, bq_s, p1, if_neg (by rw [le_nI (by omega) (by omega)]; omega), bq_s, zsub (by omega), pI_90 hw, bq_s, gR_90_6 hw1, bq_s, gI_90 (j := 7) hw1, bq_s, gI_90 (j := 4) hw1, bq_s, e4, e7, zadd, rem_nI (by omega) (by omega) (by omega), bq_s, aR_past hw1 (by omega), bq_s, c_readFrom hw1 hrow, bq_s]
    rw [gb, bq_s]
    have fr1 : Fr Xnn σ (rdF (ah_wI σ 90 4 (nI (km D - 1))) (96 + (o + (km D - 1)) % 20)) := (Fr.rfl.wI (by unfold Xnn; omega)).trans (rdF_fr.mono (fun a j z => by unfold Xnn; omega))
    have hw2 : Wf (rdF (ah_wI σ 90 4 (nI (km D - 1))) (96 + (o + (km D - 1)) % 20)) := hw.fr fr1
    have hw3 := hw2.wI 117 2 (nI 0)
    have e4' : ah_I (ah_wI (rdF (ah_wI σ 90 4 (nI (km D - 1))) (96 + (o + (km D - 1)) % 20)) 117 2 (nI 0)) 90 4 = nI (km D - 1) := by
      rw [rI_ne (Or.inl (by omega)), rdF_fr.I (by omega)]; exact rI_eq
    have e7' : ah_I (ah_wI (rdF (ah_wI σ 90 4 (nI (km D - 1))) (96 + (o + (km D - 1)) % 20)) 117 2 (nI 0)) 90 7 = nI o := by
      rw [rI_ne (Or.inl (by omega)), rdF_fr.I (by omega)]; exact e7
    rw [gR_0_6 hw2, bq_s, pZ0_117 hw2, bq_s, gR_0_5 hw3, bq_s, gI_90 (j := 4) hw3, bq_s, e4']
    have f3 := fr1.wI (a := 117) (i := 2) (x := nI 0) (by unfold Xnn; omega)
    have e52 : dUndo D 225 52 = nI (km D - 1) := by unfold dUndo; rw [if_pos ⟨rfl, rfl⟩]
    have ekm : km (dUndo D) = km D - 1 := by show ix (dUndo D 225 52) = _; rw [e52]; exact ix_nI (by omega)
    have o2 : ∀ j, j ≠ 52 → dUndo D 225 j = D 225 j := fun j hj => by unfold dUndo; rw [if_neg (by omega), if_neg (by omega)]
    have oo : ∀ x, 251 < x → dUndo D x = D x := fun x hx => funext fun j => by unfold dUndo; rw [if_neg (by omega), if_neg (by omega)]
    refine ⟨_, rfl, rfl, f3, h.chg f3 dUndo_t (hB.undo q).2.1 ?_ ⟨?_, ⟨o, ho, e7', fun i hi => ?_⟩, ?_, ?_⟩ rI_eq (o2 _ (by omega)) (o2 _ (by omega)) (o2 _ (by omega))⟩
    · intro c hc
      have hr : RowR (ah_wI σ 90 4 (nI (km D - 1))) (96 + (o + (km D - 1)) % 20) (fun c => D 255 (7 * (km D - 1) + c)) (fun c => D 256 (7 * (km D - 1) + c)) (fun c => D 257 (7 * (km D - 1) + c)) (fun c => D 258 (7 * (km D - 1) + c)) := (p3 (km D - 1) (by omega)).fr (fun j _ => rI_ne (Or.inl (by omega)))
      have := rdF_net (by omega) hr c hc
      have e : ∀ x, 248 ≤ x → x ≤ 251 → dUndo D x c = D (x + 7) (7 * (km D - 1) + c) := fun x z1 z2 => by unfold dUndo; rw [if_neg (by omega), if_pos ⟨z1, z2, hc⟩]
      rw [e 248 (by omega) (by omega), e 249 (by omega) (by omega), e 250 (by omega) (by omega), e 251 (by omega) (by omega), rI_ne (Or.inl (by omega)), rI_ne (Or.inl (by omega)), rI_ne (Or.inl (by omega)), rI_ne (Or.inl (by omega))]
      exact this
    · rw [e52]; exact e4'
    · rw [ekm] at hi
      rw [oo 255 (by omega), oo 256 (by omega), oo 257 (by omega), oo 258 (by omega)]
      refine (p3 i (by omega)).fr (fun j _ => ?_)
      rw [rI_ne (Or.inl (by omega)), rdF_fr.I (by omega), rI_ne (Or.inl (by omega))]
    · rw [o2 57 (by omega), rI_ne (Or.inl (by omega)), rdF_fr.I (by omega), rI_ne (Or.inr (by omega))]; exact p4
    · rw [o2 57 (by omega), oo 259 (by omega), oo 260 (by omega), oo 261 (by omega), oo 262 (by omega)]
      refine fun z => (p5 z).fr (fun j _ => ?_)
      rw [rI_ne (Or.inl (by omega)), rdF_fr.I (by omega), rI_ne (Or.inl (by omega))]
theorem c_back (h : CJ σ t D) (hB : MB D) : Ok (f_X11_back 0 σ) (CC σ t (dBackQ D) (sBack D)) := by
  have hw := h.w
  obtain ⟨p1, ⟨o, ho, p2, p3⟩, p4, p5⟩ := h.2.1
  unfold f_X11_back f_X11_back_0 sBack dBackQ
  simp only [to_bq, l_0, l_1, l_2, l_3, l_4, l_5, l_6, l_7, l_8, l_9, l_10, l_11, l_12, l_13, l_14, l_15, l_16, l_17, l_18, l_19, l_20, l_21, l_22, l_23, l_24, l_25, l_26, l_27, l_28, l_29, l_30, l_31, l_32, l_40, l_41, l_42, l_43, l_44, l_45, l_46, l_47, l_48, l_49, l_50, l_51, l_52, l_53, l_54, l_55, l_56, l_57, l_58, l_59, l_60, l_61, l_62, l_63, l_64, l_72, l_97, l_99, l_100, l_104, l_120, l_122, l_128, l_140, l_255, l_256, l_257, l_258, l_260, l_261, l_262, l_364, l_680, l_700, l_701, l_840, l_999, l_1023, l_1024, l_9999, l_10000, l_1000000, lm]
  rw [ck_0 hw, gR_0_5 hw, bq_s, gI_90 (j := 5) hw, bq_s, p4]
  by_cases q : D 225 57 = nI 0
  · rw [if_pos q, if_pos q, if_pos q]
    exact ⟨_, rfl, rfl, Fr.rfl, h⟩
  · rw [if_neg q, if_neg q, if_neg q, bq_s]
    have q1 := h.n.2.2.2.1.resolve_left q
    have hw2 : Wf (rdF σ 116) := hw.fr rdF_fr
    have ti : f_X5_takeImage 90 σ = some (ah_wI (rdF σ 116) 90 4 (nI 0)) := by
      unfold f_X5_takeImage f_X5_takeImage_0
      simp only [to_bq, l_0, l_1, l_2, l_3, l_4, l_5, l_6, l_7, l_8, l_9, l_10, l_11, l_12, l_13, l_14, l_15, l_16, l_17, l_18, l_19, l_20, l_21, l_22, l_23, l_24, l_25, l_26, l_27, l_28, l_29, l_30, l_31, l_32, l_40, l_41, l_42, l_43, l_44, l_45, l_46, l_47, l_48, l_49, l_50, l_51, l_52, l_53, l_54, l_55, l_56, l_57, l_58, l_59, l_60, l_61, l_62, l_63, l_64, l_72, l_97, l_99, l_100, l_104, l_120, l_122, l_128, l_140, l_255, l_256, l_257, l_258, l_260, l_261, l_262, l_364, l_680, l_700, l_701, l_840, l_999, l_1023, l_1024, l_9999, l_10000, l_1000000, lm]
      rw [ck_90 hw, gR_90_8 hw, bq_s, c_readFrom hw S0_116, bq_s, pI_90 hw2, bq_s]
    rw [ti, bq_s]
    have hw3 := hw2.wI 90 4 (nI 0)
    have hw4 := hw3.wI 117 2 (nI 0)
    rw [gR_0_6 hw3, bq_s, pZ0_117 hw3, bq_s, gR_0_5 hw4, bq_s]
    have f3 : Fr Xnn σ (ah_wI (ah_wI (rdF σ 116) 90 4 (nI 0)) 117 2 (nI 0)) := ((rdF_fr.mono (fun a j z => by unfold Xnn; omega)).wI (by unfold Xnn; omega)).wI (by unfold Xnn; omega)
    have e52 : dBack D 225 52 = nI 0 := by unfold dBack; rw [if_pos ⟨rfl, rfl⟩]
    have ekm : km (dBack D) = 0 := by show ix (dBack D 225 52) = _; rw [e52]; exact ix_nI (by omega)
    have o2 : ∀ j, j ≠ 52 → dBack D 225 j = D 225 j := fun j hj => by unfold dBack; rw [if_neg (by omega), if_neg (by omega)]
    have oo : ∀ x, 251 < x → dBack D x = D x := fun x hx => funext fun j => by unfold dBack; rw [if_neg (by omega), if_neg (by omega)]
    have hN : NetR (ah_wI (ah_wI (rdF σ 116) 90 4 (nI 0)) 117 2 (nI 0)) (dBack D) := by
      intro c hc
      have := rdF_net (by omega) (p5 q1) c hc
      have e : ∀ x, 248 ≤ x → x ≤ 251 → dBack D x c = D (x + 11) c := fun x z1 z2 => by unfold dBack; rw [if_neg (by omega), if_pos ⟨z1, z2, hc⟩]
      rw [e 248 (by omega) (by omega), e 249 (by omega) (by omega), e 250 (by omega) (by omega), e 251 (by omega) (by omega)]
      simp only [ah_I_wI, if_true, if_false, ite_true, ite_false, reduceIte, not_true, not_false, and_true, true_and, and_false, false_and, or_true, true_or, or_false, false_or, eq_self]
      exact this
    have hC : CJ (ah_wI (ah_wI (rdF σ 116) 90 4 (nI 0)) 117 2 (nI 0)) t (dBack D) := by
      refine h.chg f3 dBack_t (hB.back q).2.1 hN ⟨?_, ⟨o, ho, ?_, fun i hi => ?_⟩, ?_, ?_⟩ rI_eq (o2 _ (by omega)) (o2 _ (by omega)) (o2 _ (by omega))
      · rw [e52, rI_ne (Or.inl (by omega))]; exact rI_eq
      · rw [rI_ne (Or.inl (by omega)), rI_ne (Or.inr (by omega)), rdF_fr.I (by omega)]; exact p2
      · rw [ekm] at hi; omega
      · rw [o2 57 (by omega), rI_ne (Or.inl (by omega)), rI_ne (Or.inr (by omega)), rdF_fr.I (by omega)]; exact p4
      · rw [o2 57 (by omega), oo 259 (by omega), oo 260 (by omega), oo 261 (by omega), oo 262 (by omega)]
        refine fun z => (p5 z).fr (fun j _ => ?_)
        rw [rI_ne (Or.inl (by omega)), rI_ne (Or.inl (by omega)), rdF_fr.I (by omega)]
    rw [c_pipesLaid hw4 hN hC.r.t hC.n, bq_s]
    exact ⟨_, rfl, rfl, f3, hC⟩
theorem c_keep (h : CJ σ t D) (hB : MB D) : Ok (f_X11_keep 0 σ) (CC σ t (dImg D) (sLaid (dImg D))) := by
  have hw := h.w
  have hT' : t = 2 ∨ t = 42 := h.r.tn
  obtain ⟨p1, ⟨o, ho, p2, p3⟩, p4, p5⟩ := h.2.1
  have hw2 : Wf (wrT σ 116) := hw.fr wrT_fr
  have hw3 := hw2.wI 90 5 (nI 1)
  have ki : f_X5_keepImage 90 σ = some (ah_wI (wrT σ 116) 90 5 (nI 1)) := by
    unfold f_X5_keepImage f_X5_keepImage_0
    simp only [to_bq, l_0, l_1, l_2, l_3, l_4, l_5, l_6, l_7, l_8, l_9, l_10, l_11, l_12, l_13, l_14, l_15, l_16, l_17, l_18, l_19, l_20, l_21, l_22, l_23, l_24, l_25, l_26, l_27, l_28, l_29, l_30, l_31, l_32, l_40, l_41, l_42, l_43, l_44, l_45, l_46, l_47, l_48, l_49, l_50, l_51, l_52, l_53, l_54, l_55, l_56, l_57, l_58, l_59, l_60, l_61, l_62, l_63, l_64, l_72, l_97, l_99, l_100, l_104, l_120, l_122, l_128, l_140, l_255, l_256, l_257, l_258, l_260, l_261, l_262, l_364, l_680, l_700, l_701, l_840, l_999, l_1023, l_1024, l_9999, l_10000, l_1000000, lm]
    rw [ck_90 hw, gR_90_8 hw, bq_s, c_writeTo hw S0_116, bq_s, pZ1_90 hw2, bq_s]
  unfold f_X11_keep f_X11_keep_0
  simp only [to_bq, l_0, l_1, l_2, l_3, l_4, l_5, l_6, l_7, l_8, l_9, l_10, l_11, l_12, l_13, l_14, l_15, l_16, l_17, l_18, l_19, l_20, l_21, l_22, l_23, l_24, l_25, l_26, l_27, l_28, l_29, l_30, l_31, l_32, l_40, l_41, l_42, l_43, l_44, l_45, l_46, l_47, l_48, l_49, l_50, l_51, l_52, l_53, l_54, l_55, l_56, l_57, l_58, l_59, l_60, l_61, l_62, l_63, l_64, l_72, l_97, l_99, l_100, l_104, l_120, l_122, l_128, l_140, l_255, l_256, l_257, l_258, l_260, l_261, l_262, l_364, l_680, l_700, l_701, l_840, l_999, l_1023, l_1024, l_9999, l_10000, l_1000000, lm]
  rw [ck_0 hw, gR_0_5 hw, bq_s, ki, bq_s, gR_0_5 hw3, bq_s]
  have f2 : Fr (fun a j => a = 116 ∨ a = 90 ∧ j = 5) σ (ah_wI (wrT σ 116) 90 5 (nI 1)) := (wrT_fr.mono (fun a j z => Or.inl z)).wI (Or.inr ⟨rfl, rfl⟩)
  have e57 : dImg D 225 57 = nI 1 := by unfold dImg; rw [if_pos ⟨rfl, rfl⟩]
  have o2 : ∀ j, j ≠ 57 → dImg D 225 j = D 225 j := fun j hj => by unfold dImg; rw [if_neg (by omega), if_neg (by omega)]
  have oo : ∀ x, (x < 259 ∧ x ≠ 225) ∨ 262 < x → dImg D x = D x := fun x hx => funext fun j => by unfold dImg; rw [if_neg (by omega), if_neg (by omega)]
  have hJ : JE (ah_wI (wrT σ 116) 90 5 (nI 1)) t (dImg D) := (h.1.fr f2 (fun a j _ => by omega)).cg (fun a z1 z2 => oo a (by omega)) (hB.img).2.1
  have hC : CJ (ah_wI (wrT σ 116) 90 5 (nI 1)) t (dImg D) := by
    have hNR := h.1.2.2.2.1
    obtain ⟨-, -, q1, q2, ⟨q3, q4⟩, ⟨q5, q6⟩, q7⟩ := h
    refine ⟨hJ, ⟨?_, ⟨o, ho, ?_, ?_⟩, ?_, ?_⟩, (f2.R (Or.inr (by omega))).trans q1, (f2.R (Or.inr (by omega))).trans q2, ⟨?_, ?_⟩, ⟨?_, ?_⟩, fun k hk => (f2.I (by omega)).trans (q7 k hk)⟩
    · rw [o2 52 (by omega), f2.I (by omega)]; exact p1
    · rw [f2.I (by omega)]; exact p2
    · unfold km
      rw [o2 52 (by omega), oo 255 (by omega), oo 256 (by omega), oo 257 (by omega), oo 258 (by omega)]
      exact fun i hi => (p3 i hi).fr (fun j _ => f2.I (by omega))
    · rw [e57]; exact rI_eq
    · intro _ c hc
      have := wrT_row hNR (a := 116) (by omega) c hc
      have e : ∀ x, 259 ≤ x → x ≤ 262 → dImg D x c = D (x - 11) c := fun x z1 z2 => by unfold dImg; rw [if_neg (by omega), if_pos ⟨z1, z2, hc⟩]
      rw [e 259 (by omega) (by omega), e 260 (by omega) (by omega), e 261 (by omega) (by omega), e 262 (by omega) (by omega), rI_ne (Or.inl (by omega)), rI_ne (Or.inl (by omega)), rI_ne (Or.inl (by omega)), rI_ne (Or.inl (by omega))]
      exact this
    · rw [o2 2 (by omega), f2.I (by omega)]; exact q3
    · unfold tpd
      rw [o2 2 (by omega), oo 226 (by omega)]
      exact fun j hj => (f2.I (by omega)).trans (q4 j hj)
    · rw [o2 31 (by omega), f2.I (by omega)]; exact q5
    · rw [o2 32 (by omega), f2.I (by omega)]; exact q6
  rw [c_pipesLaid hw3 hC.1.2.2.2.1 hC.r.t hC.n, bq_s]
  exact ⟨_, rfl, rfl, f2.mono (fun a j z => by unfold Xnn; omega), hC⟩
end
