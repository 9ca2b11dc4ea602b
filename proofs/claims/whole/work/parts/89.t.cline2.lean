/-! LINES OF THE CLASS: what is full -/
section
variable {σ τ : ah_H} {T : Nat → Nat} {n N i t : Nat} {E E' : DD} {td : Nat} {o : List (Nat × Nat)}
theorem c_full (h : CAt σ T n N i) (hT : TR σ t E) (hr : ah_R σ 82 2 = some t) : ∃ τ, Fr Xrn σ τ ∧ CFl τ T n 2 i ∧ (nC E = 7 → f_X7_readCorner 82 σ = some (nI 0, τ)) ∧ (nS E = 10 → f_X7_readStreet 82 σ = some (nI 0, τ)) ∧ (nP E = 4 → f_X7_readPipe 82 σ = some (nI 0, τ)) ∧ (nR E = 4 → f_X7_readRain 82 σ = some (nI 0, τ)) := by
  have hW := h.w
  have htn := hT.1
  obtain ⟨t1, t2, t3, t4, t5, t6, t7, -⟩ := hT.2.2.2.1
  obtain ⟨τ, u1, u2, u3⟩ := c_fail h (f := 2)
  have e : (op_rz (nI 0)).map (fun q => (q, τ)) = some (nI 0, τ) := by rw [rz_0]; rfl
  refine ⟨τ, u2, u3, fun z => ?_, fun z => ?_, fun z => ?_, fun z => ?_⟩
  · unfold f_X7_readCorner f_X7_readCorner_0
    rw [ck_82 hW, gR_82_2 hW, hr, bd_s, gI_t hW htn, t1, bd_s, if_neg (show ¬ nI (nC E) < (7 : Int32) from (show ¬ nI (nC E) < nI 7 by rw [lt_nI (by omega) (by omega)]; omega)), show f_X7_fail 82 (2 : Int32) σ = some (nI 0, τ) from u1, bd_s]
    exact e
  · unfold f_X7_readStreet f_X7_readStreet_0
    rw [ck_82 hW, gR_82_2 hW, hr, bd_s, gI_t hW htn, t4, bd_s, if_neg (show ¬ nI (nS E) < (10 : Int32) from (show ¬ nI (nS E) < nI 10 by rw [lt_nI (by omega) (by omega)]; omega)), show f_X7_fail 82 (2 : Int32) σ = some (nI 0, τ) from u1, bd_s]
    exact e
  · unfold f_X7_readPipe f_X7_readPipe_0
    rw [ck_82 hW, gR_82_2 hW, hr, bd_s, gI_t hW htn, t5, bd_s, if_neg (show ¬ nI (nP E) < (4 : Int32) from (show ¬ nI (nP E) < nI 4 by rw [lt_nI (by omega) (by omega)]; omega)), show f_X7_fail 82 (2 : Int32) σ = some (nI 0, τ) from u1, bd_s]
    exact e
  · unfold f_X7_readRain f_X7_readRain_0
    rw [ck_82 hW, gR_82_2 hW, hr, bd_s, gI_t hW htn, t6, bd_s, if_neg (show ¬ nI (nR E) < (4 : Int32) from (show ¬ nI (nR E) < nI 4 by rw [lt_nI (by omega) (by omega)]; omega)), show f_X7_fail 82 (2 : Int32) σ = some (nI 0, τ) from u1, bd_s]
    exact e
theorem Xrn_x : ∀ a j, Xrn a j → Xcx t a j := fun a j z => Or.inr (Or.inl z)
/-- a word that is told twice -/
theorem c_twice (h : CAt σ T n N i) (hT : TR σ t E) (hr : ah_R σ 82 2 = some t) {w : Nat} (hw : isOn w) (hk0 : tS (tks T n i) = 0) (hkw : tV (tks T n i) = w) {m : Nat} (hm : ah_I σ t 14 = nI m) (hmb : m < 2 ^ 24) (hb : m.testBit w = true) : ∃ τ, Fr Xrn σ τ ∧ CFl τ T n 3 i ∧ (w = 1 → f_X7_readRiver 82 σ = some (nI 0, τ)) ∧ (w = 8 → f_X7_readCart 82 σ = some (nI 0, τ)) ∧ (∀ a x, w = 4 ∨ w = 5 → f_X7_readLimits 82 a x σ = some (nI 0, τ)) := by
  have hW := h.w
  have htn := hT.1
  have hw8 : w ≤ 8 := by omega
  have hk := h.2.2.2.2.1
  have hval : ah_I σ 83 9 = nI w := by
    rw [hk.vkey hk0, hkw]; unfold ckw; rw [if_pos (by omega)]
  obtain ⟨τ, u1, u2, u3⟩ := c_tellF h htn hr hm hmb hw8 hb
  have e : (op_rz (nI 0)).map (fun q => (q, τ)) = some (nI 0, τ) := by rw [rz_0]; rfl
  refine ⟨τ, u2, u3, fun z => ?_, fun z => ?_, fun a x z => ?_⟩
  · subst z
    unfold f_X7_readRiver f_X7_readRiver_0
    rw [ck_82 hW, show f_X7_tellOnce 82 (1 : Int32) σ = some (nI 0, τ) from u1, bd_s, if_pos (show nI 0 = (0 : Int32) from rfl)]
    exact e
  · subst z
    unfold f_X7_readCart f_X7_readCart_0
    rw [ck_82 hW, show f_X7_tellOnce 82 (8 : Int32) σ = some (nI 0, τ) from u1, bd_s, if_pos (show nI 0 = (0 : Int32) from rfl)]
    exact e
  · unfold f_X7_readLimits f_X7_readLimits_0
    rw [ck_82 hW, gR_82_0 hW, bd_s, gI_83 hW, hval, bd_s, u1, bd_s, if_pos (show nI 0 = (0 : Int32) from rfl)]
    exact e
end
