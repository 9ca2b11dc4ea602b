/-! THE CLASS: feed -/
theorem nb_e (x : Int32) : vp_nar .byte x = x.toInt8.toInt32 := rfl
theorem nb_and (y : Int32) : vp_nar .byte (Int8.toInt32 (Int32.toInt8 y)) = vp_nar .byte (y &&& nI 255) := by
  rw [nb_e, nb_e, Int8.toInt8_toInt32]
  congr 1
  apply Int8.toBitVec_inj.1
  rw [Int32.toBitVec_toInt8, Int32.toBitVec_toInt8]
  apply BitVec.eq_of_getLsbD_eq
  intro i hi
  have h8 : (nI 255).toBitVec.getLsbD i = true := (by decide : ∀ i, i < 8 → (nI 255).toBitVec.getLsbD i = true) i hi
  rw [Int32.toBitVec_and, BitVec.getLsbD_signExtend, BitVec.getLsbD_signExtend, if_pos (by omega), if_pos (by omega), BitVec.getLsbD_and, h8, Bool.and_true]
section
variable {σ : ah_H} {t : Nat} {D : DD}
def Xfd (a j : Nat) : Prop := a = 1 ∨ a = 0 ∧ j = 1
/-- four bytes -/
theorem c_ab3 {tp : Nat} (htp : tp + 4 ≤ 700) (x : Int32) : ∀ m k fu (τ : ah_H), k + m = 4 → m < fu → Wf τ → ah_I τ 0 1 = nI (tp + k) → ∃ ρ, f_X11_appendBytes_3 fu 0 x (jI (24 - 8 * (k : Int))) τ = some ρ ∧ Fr Xfd τ ρ ∧ ah_I ρ 0 1 = nI (tp + 4) ∧ ∀ j, ah_I ρ 1 j = if tp + k ≤ j ∧ j < tp + 4 then vp_nar .byte ((x >>> ((nI 24 - nI 8 * nI (j - tp)) &&& nI 31)) &&& nI 255) else ah_I τ 1 j := by
  intro m
  induction m with
  | zero =>
    intro k fu τ hk hf hw h1
    obtain ⟨fu, rfl⟩ : ∃ q, fu = q + 1 := ⟨fu - 1, by omega⟩
    obtain rfl : k = 4 := by omega
    refine ⟨τ, ?_, Fr.rfl, h1, fun j => by rw [if_neg (by omega)]⟩
    show f_X11_appendBytes_3_b _ _ _ _ _ = _
    unfold f_X11_appendBytes_3_b
    rw [if_pos (by decide)]
  | succ m ih =>
    intro k fu τ hk hf hw h1
    obtain ⟨fu, rfl⟩ : ∃ q, fu = q + 1 := ⟨fu - 1, by omega⟩
    have e1 : nI 24 - nI 8 * nI k = jI (24 - 8 * (k : Int)) := by rw [zmul, jI_n, jI_n, jsub]; congr 1
    have e2 : jI (24 - 8 * (k : Int)) + mI 8 = jI (24 - 8 * ((k + 1 : Nat) : Int)) := by rw [jI_m, jadd]; congr 1; omega
    have hw2 := hw.wI 1 (tp + k) (vp_nar .byte (Int8.toInt32 (Int32.toInt8 (x >>> (jI (24 - 8 * (k : Int)) &&& nI 31)))))
    show ∃ ρ, f_X11_appendBytes_3_b _ _ _ _ _ = _ ∧ _
    unfold f_X11_appendBytes_3_b
    simp only [to_bq, l_0, l_1, l_2, l_3, l_4, l_5, l_6, l_7, l_8, l_9, l_10, l_11, l_12, l_13, l_14, l_15, l_16, l_17, l_18, l_19, l_20, l_21, l_22, l_23, l_24, l_25, l_26, l_27, l_28, l_29, l_30, l_31, l_32, l_40, l_41, l_42, l_43, l_44, l_45, l_46, l_47, l_48, l_49, l_50, l_51, l_52, l_53, l_54, l_55, l_56, l_57, l_58, l_59, l_60, l_61, l_62, l_63, l_64, l_72, l_97, l_99, l_100, l_104, l_120, l_122, l_128, l_140, l_255, l_256, l_257, l_258, l_260, l_261, l_262, l_364, l_680, l_700, l_701, l_840, l_999, l_1023, l_1024, l_9999, l_10000, l_1000000, lm]
    rw [if_neg (show ¬ jI (24 - 8 * (k : Int)) < nI 0 by rw [jI_n, jlt ⟨by omega, by omega⟩ ⟨by omega, by omega⟩]; omega), gI_0 (j := 1) hw, bq_s, h1, if_neg (by rw [le_nI (by omega) (by omega)]; omega), gR_0_0 hw, bq_s, bq_s, sB_1 hw (by omega), bq_s, gI_0 (j := 1) hw2, bq_s, rI_ne (Or.inl (by omega)), h1, pI_0 hw2, bq_s, zadd, e2]
    have f1 : Fr Xfd τ (ah_wI (ah_wI τ 1 (tp + k) (vp_nar .byte (Int8.toInt32 (Int32.toInt8 (x >>> (jI (24 - 8 * (k : Int)) &&& nI 31)))))) 0 1 (nI (tp + k + 1))) := (Fr.rfl.wI (by unfold Xfd; omega)).wI (by unfold Xfd; omega)
    obtain ⟨ρ, g1, g2, g3, g4⟩ := ih (k + 1) fu _ (by omega) (by omega) (hw2.wI 0 1 (nI (tp + k + 1))) rI_eq
    refine ⟨ρ, g1, f1.trans g2, g3, fun j => ?_⟩
    rw [g4, rI_ne (Or.inl (by omega)), ah_I_wI]
    by_cases z : j = tp + k
    · rw [if_neg (by omega), if_pos ⟨rfl, z⟩, if_pos (by omega), show j - tp = k by omega, e1, nb_and]
    · rw [if_neg (show ¬ (1 = 1 ∧ j = tp + k) from fun w => z w.2)]
      by_cases z2 : tp + (k + 1) ≤ j ∧ j < tp + 4
      · rw [if_pos z2, if_pos (by omega)]
      · rw [if_neg z2, if_neg (by omega)]
theorem c_ab (hw : Wf σ) {tp : Nat} (htp : tp + 4 ≤ 700) (h1 : ah_I σ 0 1 = nI tp) (x : Int32) : ∃ ρ, f_X11_appendBytes 0 x σ = some ρ ∧ Fr Xfd σ ρ ∧ ah_I ρ 0 1 = nI (tp + 4) ∧ ∀ j, ah_I ρ 1 j = if tp ≤ j ∧ j < tp + 4 then vp_nar .byte ((x >>> ((nI 24 - nI 8 * nI (j - tp)) &&& nI 31)) &&& nI 255) else ah_I σ 1 j := by
  unfold f_X11_appendBytes f_X11_appendBytes_0
  rw [ck_0 hw]
  exact c_ab3 htp x 4 0 5000 σ (by omega) (by omega) hw h1
theorem c_feed (h : CJ σ t D) (a b c d e : Int32) (hB : MB D) : Ok (f_X11_feed 0 a b c d e σ) (fun r => r.1 = sFeed D ∧ Fr Xfd σ r.2 ∧ CJ r.2 t (dFeedQ D a b c d e)) := by
  have hw := h.w
  obtain ⟨t1, t2⟩ := hB.qtp
  have hT' : t = 2 ∨ t = 42 := h.r.tn
  have h1 : ah_I σ 0 1 = nI (tpd D) := h.2.2.2.2.1.1.trans t1
  unfold f_X11_feed f_X11_feed_0 sFeed dFeedQ
  simp only [to_bq, l_0, l_1, l_2, l_3, l_4, l_5, l_6, l_7, l_8, l_9, l_10, l_11, l_12, l_13, l_14, l_15, l_16, l_17, l_18, l_19, l_20, l_21, l_22, l_23, l_24, l_25, l_26, l_27, l_28, l_29, l_30, l_31, l_32, l_40, l_41, l_42, l_43, l_44, l_45, l_46, l_47, l_48, l_49, l_50, l_51, l_52, l_53, l_54, l_55, l_56, l_57, l_58, l_59, l_60, l_61, l_62, l_63, l_64, l_72, l_97, l_99, l_100, l_104, l_120, l_122, l_128, l_140, l_255, l_256, l_257, l_258, l_260, l_261, l_262, l_364, l_680, l_700, l_701, l_840, l_999, l_1023, l_1024, l_9999, l_10000, l_1000000, lm]
  rw [ck_0 hw, gI_0 (j := 1) hw, bq_s, h1, zadd]
  by_cases q : tpd D ≤ 680
  · rw [if_pos (by rw [le_nI (by omega) (by omega)]; omega), if_pos q, if_pos q]
    obtain ⟨ρ1, a1, a2, a3, a4⟩ := c_ab hw (by omega) h1 a
    obtain ⟨ρ2, b1, b2, b3, b4⟩ := c_ab (hw.fr a2) (by omega) a3 b
    obtain ⟨ρ3, c1, c2, c3, c4⟩ := c_ab ((hw.fr a2).fr b2) (by omega) b3 c
    obtain ⟨ρ4, d1, d2, d3, d4⟩ := c_ab (((hw.fr a2).fr b2).fr c2) (by omega) c3 d
    obtain ⟨ρ5, e1, e2, e3, e4⟩ := c_ab ((((hw.fr a2).fr b2).fr c2).fr d2) (by omega) d3 e
    have g : Fr Xfd σ ρ5 := a2.trans (b2.trans (c2.trans (d2.trans e2)))
    have hw5 := hw.fr g
    rw [a1, bq_s, b1, bq_s, c1, bq_s, d1, bq_s, e1, bq_s, gI_0 (j := 1) hw5, bq_s, e3]
    have o : ∀ x, x ≠ 225 → x ≠ 226 → dFeed D a b c d e x = D x := fun x z1 z2 => funext fun j => by unfold dFeed; rw [if_neg (by omega), if_neg (by omega)]
    have o2 : ∀ j, j ≠ 2 → dFeed D a b c d e 225 j = D 225 j := fun j hj => by unfold dFeed; rw [if_neg (by omega), if_neg (by omega)]
    have eB := hB.feed q a b c d e
    have et : dFeed D a b c d e 225 2 = nI (tpd D + 20) := by unfold dFeed; rw [if_pos ⟨rfl, rfl⟩]
    have etp : tpd (dFeed D a b c d e) = tpd D + 20 := by show ix (dFeed D a b c d e 225 2) = _; rw [et]; exact ix_nI (by omega)
    have hX : ∀ x j, 2 ≤ x → ¬ Xfd x j := fun x j _ => by unfold Xfd; omega
    refine ⟨_, rfl, rfl, g, ?_⟩
    obtain ⟨j1, p, q1, q2, ⟨q3, q4⟩, ⟨q5, q6⟩, q7⟩ := h
    refine ⟨(j1.fr g (fun x j _ => hX x j (by omega))).cg (fun x z1 z2 => o x (by omega) (by omega)) eB.2.1, (p.fr g (fun x j _ => hX x j (by omega))).cg (o2 _ (by omega)) (o2 _ (by omega)) (fun x z1 z2 => o x (by omega) (by omega)), (g.R (Or.inr (by unfold Xfd; omega))).trans q1, (g.R (Or.inr (by unfold Xfd; omega))).trans q2, ⟨?_, fun j hj => ?_⟩, ⟨?_, ?_⟩, fun k hk => (g.I (hX _ _ (by omega))).trans (q7 k hk)⟩
    · rw [et, e3]
    · rw [etp] at hj
      unfold dFeed
      rw [if_neg (by omega)]
      by_cases z : tpd D ≤ j
      · rw [if_pos ⟨rfl, z, by omega⟩]
        unfold fby fsel
        rw [e4, d4, c4, b4, a4]
        by_cases z1 : j < tpd D + 4
        · rw [if_neg (by omega), if_neg (by omega), if_neg (by omega), if_neg (by omega), if_pos (by omega), if_pos (by omega), show (j - tpd D) % 4 = j - tpd D by omega]
        by_cases z2 : j < tpd D + 8
        · rw [if_neg (by omega), if_neg (by omega), if_neg (by omega), if_pos (by omega), if_neg (by omega), if_pos (by omega), show (j - tpd D) % 4 = j - (tpd D + 4) by omega]
        by_cases z3 : j < tpd D + 12
        · rw [if_neg (by omega), if_neg (by omega), if_pos (by omega), if_neg (by omega), if_neg (by omega), if_pos (by omega), show (j - tpd D) % 4 = j - (tpd D + 4 + 4) by omega]
        by_cases z4 : j < tpd D + 16
        · rw [if_neg (by omega), if_pos (by omega), if_neg (by omega), if_neg (by omega), if_neg (by omega), if_pos (by omega), show (j - tpd D) % 4 = j - (tpd D + 4 + 4 + 4) by omega]
        · rw [if_pos (by omega), if_neg (by omega), if_neg (by omega), if_neg (by omega), if_neg (by omega), show (j - tpd D) % 4 = j - (tpd D + 4 + 4 + 4 + 4) by omega]
      · rw [if_neg (by omega), e4, d4, c4, b4, a4, if_neg (by omega), if_neg (by omega), if_neg (by omega), if_neg (by omega), if_neg (by omega)]
        exact q4 j (by omega)
    · rw [o2 31 (by omega)]; exact (g.I (hX _ _ (by omega))).trans q5
    · rw [o2 32 (by omega)]; exact (g.I (hX _ _ (by omega))).trans q6
  · rw [if_neg (by rw [le_nI (by omega) (by omega)]; omega), if_neg q, if_neg q]
    exact ⟨_, rfl, rfl, Fr.rfl, h⟩
end
