/-! LINES OF THE CLASS: a line, all of it -/
section
variable {σ τ : ah_H} {T : Nat → Nat} {n N i t : Nat} {E E' : DD} {td : Nat} {o : List (Nat × Nat)}
theorem Xcm_x : ∀ a j, Xcm t a j → Xcx t a j := fun a j z => Or.inr z
theorem rz0_b {r : Option (Int32 × ah_H)} (h : r = some (nI 0, τ)) : (r.bind fun r5 => (op_rz r5.1).map fun q => (q, r5.2)) = some (nI 0, τ) := by rw [h, bd_s, rz_0]; rfl
theorem rz1_b {r : Option (Int32 × ah_H)} (h : r = some (nI 1, τ)) : (r.bind fun r5 => (op_rz r5.1).map fun q => (q, r5.2)) = some (nI 1, τ) := by rw [h, bd_s, rz_1]; rfl
theorem c_rline (h : CLn σ T n N t i E td o) (hv : ∀ i, TVb (tks T n i)) (hI : LnI E td o) (h4 : tS (tks T n i) ≠ 4) (hM : tS (tks T n i) = 0 → tV (tks T n i) = 7 → ∀ r, sLaw (tks T n) (i + 1) E (td ||| 2 ^ 7) o = .inr r → MT r.2.1) : ∃ τ, Fr (Xcx t) σ τ ∧ CRo (f_X7_readLine 82 σ) T n N t (lin (tks T n) i E td o) τ := by
  obtain ⟨hA, hT, hr, ⟨m, m1, m2, m3⟩, hK⟩ := h
  have hCT : CTd σ t td := ⟨m, m1, m2, m3⟩
  have hW := hA.w
  have htn := hT.1
  have hTt : t = 2 ∨ t = 42 := htn
  have hk := hA.2.2.2.2.1
  have b0 : nC E ≤ 7 := hT.2.2.1.1.1.2
  have b1 : nS E ≤ 10 := hT.2.2.1.1.2.1.2
  have b2 : nP E ≤ 4 := hT.2.2.1.1.2.2.1.2
  have b3 : nR E ≤ 4 := hT.2.2.1.1.2.2.2.1.2
  obtain ⟨τb, q1, q2, q3⟩ := c_fail hA (f := 1)
  have bad : ¬ (tS (tks T n i) = 0 ∧ tV (tks T n i) ≤ 8) → ∃ τ, Fr (Xcx t) σ τ ∧ CRo ((f_X7_fail 82 (1 : Int32) σ).bind fun r18 => (op_rz r18.1).map fun q => (q, r18.2)) T n N t (lin (tks T n) i E td o) τ := fun z => ⟨τb, q2.mono Xrn_x, Or.inl ⟨1, i, if_neg z, rz0_b q1, q3⟩⟩
  unfold f_X7_readLine f_X7_readLine_0
  rw [ck_82 hW, gR_82_0 hW, bd_s, gI_83 hW, bd_s]
  by_cases z0 : tS (tks T n i) = 0
  · have hvb := (hv i).1 z0
    rw [if_pos (show ah_I σ 83 8 = (2 : Int32) from hk.key.mpr z0), bd_s, gI_83 hW, hk.vkey z0, bd_s]
    by_cases z1 : tV (tks T n i) ≤ 8
    · have hce : ckw (tV (tks T n i)) = tV (tks T n i) := by unfold ckw; rw [if_pos (by omega)]
      rw [hce]
      have eL : ¬ isFl E (tV (tks T n i)) → ¬ (isOn (tV (tks T n i)) ∧ td.testBit (tV (tks T n i)) = true) → lin (tks T n) i E td o = lin2 (tks T n) (tV (tks T n i)) (i + 1) E td o := fun y1 y2 => by
        unfold lin; rw [if_pos ⟨z0, z1⟩, if_neg y1, if_neg y2]
      have eF : isFl E (tV (tks T n i)) → lin (tks T n) i E td o = .inl (2, i) := fun y1 => by
        unfold lin; rw [if_pos ⟨z0, z1⟩, if_pos y1]
      have eO : ¬ isFl E (tV (tks T n i)) → isOn (tV (tks T n i)) ∧ td.testBit (tV (tks T n i)) = true → lin (tks T n) i E td o = .inl (3, i) := fun y1 y2 => by
        unfold lin; rw [if_pos ⟨z0, z1⟩, if_neg y1, if_pos y2]
      obtain ⟨τf, u1, u2, u3, u4, u5, u6⟩ := c_full hA hT hr
      have mm : ∀ w, ¬ isOn w → ∀ τ, Fr (Xcl t) σ τ → w ≤ 8 → CTd τ t (td ||| 2 ^ w) := fun w y1 τ y2 y3 => hCT.w y3 y1 (y2.I (by unfold Xcl Xrn; omega))
      generalize hw : tV (tks T n i) = w at *
      have cs : w = 0 ∨ w = 1 ∨ w = 2 ∨ w = 3 ∨ w = 4 ∨ w = 5 ∨ w = 6 ∨ w = 7 ∨ w = 8 := by omega
      rcases cs with rfl | rfl | rfl | rfl | rfl | rfl | rfl | rfl | rfl
      · rw [if_pos (show nI 0 = (0 : Int32) from rfl)]
        by_cases y : nC E = 7
        · exact ⟨τf, u1.mono Xrn_x, Or.inl ⟨2, i, eF (by omega), rz0_b (u3 y), u2⟩⟩
        · obtain ⟨τ, v1, v2, v3⟩ := c_corL hA hv hT hr h4 (by omega)
          rw [eL (by omega) (by omega)]
          exact ⟨τ, (v1.mono Xcl_m).mono Xcm_x, c_lfin htn (by omega) (by omega) (v1.mono Xcl_m) hr hK (CYo.rz v2) (fun q => ⟨v3 q, mm 0 (by omega) τ v1 (by omega)⟩)⟩
      · rw [if_neg (show ¬ nI 1 = (0 : Int32) by decide), if_pos (show nI 1 = (1 : Int32) from rfl)]
        by_cases y : m.testBit 1 = true
        · obtain ⟨τ, v1, v2, v3, -⟩ := c_twice hA hT hr (w := 1) (by omega) z0 hw m1 m2 y
          exact ⟨τ, v1.mono Xrn_x, Or.inl ⟨3, i, eO (by omega) ⟨by omega, (m3 1 (by omega)).mp y⟩, rz0_b (v3 rfl), v2⟩⟩
        · obtain ⟨τ, v1, v2, v3⟩ := c_rivL hA hT hr h4 m1 m2 y
          rw [eL (by omega) (fun q => y ((m3 1 (by omega)).mpr q.2))]
          exact ⟨τ, v1.mono Xcm_x, c_lfin htn (by omega) (by omega) v1 hr hK (CYo.rz v2) (fun q => ⟨(v3 q).1, CTd.on m2 m3 (by omega) (v3 q).2⟩)⟩
      · rw [if_neg (show ¬ nI 2 = (0 : Int32) by decide), if_neg (show ¬ nI 2 = (1 : Int32) by decide), if_pos (show nI 2 = (2 : Int32) from rfl)]
        by_cases y : nS E = 10
        · exact ⟨τf, u1.mono Xrn_x, Or.inl ⟨2, i, eF (by omega), rz0_b (u4 y), u2⟩⟩
        · obtain ⟨τ, v1, v2, v3⟩ := c_strL hA hv hT hr h4 (by omega)
          rw [eL (by omega) (by omega)]
          exact ⟨τ, (v1.mono Xcl_m).mono Xcm_x, c_lfin htn (by omega) (by omega) (v1.mono Xcl_m) hr hK (CYo.rz v2) (fun q => ⟨v3 q, mm 2 (by omega) τ v1 (by omega)⟩)⟩
      · rw [if_neg (show ¬ nI 3 = (0 : Int32) by decide), if_neg (show ¬ nI 3 = (1 : Int32) by decide), if_neg (show ¬ nI 3 = (2 : Int32) by decide), if_pos (show nI 3 = (3 : Int32) from rfl)]
        by_cases y : nP E = 4
        · exact ⟨τf, u1.mono Xrn_x, Or.inl ⟨2, i, eF (by omega), rz0_b (u5 y), u2⟩⟩
        · obtain ⟨τ, v1, v2, v3⟩ := c_pipL hA hT hr h4 (by omega)
          rw [eL (by omega) (by omega)]
          exact ⟨τ, (v1.mono Xcl_m).mono Xcm_x, c_lfin htn (by omega) (by omega) (v1.mono Xcl_m) hr hK (CYo.rz v2) (fun q => ⟨v3 q, mm 3 (by omega) τ v1 (by omega)⟩)⟩
      · rw [if_neg (show ¬ nI 4 = (0 : Int32) by decide), if_neg (show ¬ nI 4 = (1 : Int32) by decide), if_neg (show ¬ nI 4 = (2 : Int32) by decide), if_neg (show ¬ nI 4 = (3 : Int32) by decide), if_pos (show nI 4 = (4 : Int32) from rfl), gR_82_2 hW, hr, bd_s, gR_t_11 hW htn, bd_s]
        by_cases y : m.testBit 4 = true
        · obtain ⟨τ, v1, v2, -, -, v3⟩ := c_twice hA hT hr (w := 4) (by omega) z0 hw m1 m2 y
          exact ⟨τ, v1.mono Xrn_x, Or.inl ⟨3, i, eO (by omega) ⟨by omega, (m3 4 (by omega)).mp y⟩, rz0_b (v3 _ _ (Or.inl rfl)), v2⟩⟩
        · obtain ⟨τ, v1, v2, v3⟩ := c_limL hA hT hr (x := 6) (a := t + 31) (hi := 99) (w := 4) (by omega) z0 hw m1 m2 y
          rw [eL (by omega) (fun q => y ((m3 4 (by omega)).mpr q.2))]
          exact ⟨τ, v1.mono Xcm_x, c_lfin htn (by omega) (by omega) v1 hr hK (CYo.rz v2) (fun q => ⟨(v3 q).1, CTd.on m2 m3 (by omega) (v3 q).2⟩)⟩
      · rw [if_neg (show ¬ nI 5 = (0 : Int32) by decide), if_neg (show ¬ nI 5 = (1 : Int32) by decide), if_neg (show ¬ nI 5 = (2 : Int32) by decide), if_neg (show ¬ nI 5 = (3 : Int32) by decide), if_neg (show ¬ nI 5 = (4 : Int32) by decide), if_pos (show nI 5 = (5 : Int32) from rfl), gR_82_2 hW, hr, bd_s, gR_t_12 hW htn, bd_s]
        by_cases y : m.testBit 5 = true
        · obtain ⟨τ, v1, v2, -, -, v3⟩ := c_twice hA hT hr (w := 5) (by omega) z0 hw m1 m2 y
          exact ⟨τ, v1.mono Xrn_x, Or.inl ⟨3, i, eO (by omega) ⟨by omega, (m3 5 (by omega)).mp y⟩, rz0_b (v3 _ _ (Or.inr rfl)), v2⟩⟩
        · obtain ⟨τ, v1, v2, v3⟩ := c_limL hA hT hr (x := 8) (a := t + 32) (hi := 12) (w := 5) (by omega) z0 hw m1 m2 y
          rw [eL (by omega) (fun q => y ((m3 5 (by omega)).mpr q.2))]
          exact ⟨τ, v1.mono Xcm_x, c_lfin htn (by omega) (by omega) v1 hr hK (CYo.rz v2) (fun q => ⟨(v3 q).1, CTd.on m2 m3 (by omega) (v3 q).2⟩)⟩
      · rw [if_neg (show ¬ nI 6 = (0 : Int32) by decide), if_neg (show ¬ nI 6 = (1 : Int32) by decide), if_neg (show ¬ nI 6 = (2 : Int32) by decide), if_neg (show ¬ nI 6 = (3 : Int32) by decide), if_neg (show ¬ nI 6 = (4 : Int32) by decide), if_neg (show ¬ nI 6 = (5 : Int32) by decide), if_pos (show nI 6 = (6 : Int32) from rfl)]
        by_cases y : nR E = 4
        · exact ⟨τf, u1.mono Xrn_x, Or.inl ⟨2, i, eF (by omega), rz0_b (u6 y), u2⟩⟩
        · obtain ⟨τ, v1, v2, v3⟩ := c_raiL hA hv hT hr h4 (by omega)
          rw [eL (by omega) (by omega)]
          exact ⟨τ, (v1.mono Xcl_m).mono Xcm_x, c_lfin htn (by omega) (by omega) (v1.mono Xcl_m) hr hK (CYo.rz v2) (fun q => ⟨v3 q, mm 6 (by omega) τ v1 (by omega)⟩)⟩
      · rw [if_neg (show ¬ nI 7 = (0 : Int32) by decide), if_neg (show ¬ nI 7 = (1 : Int32) by decide), if_neg (show ¬ nI 7 = (2 : Int32) by decide), if_neg (show ¬ nI 7 = (3 : Int32) by decide), if_neg (show ¬ nI 7 = (4 : Int32) by decide), if_neg (show ¬ nI 7 = (5 : Int32) by decide), if_neg (show ¬ nI 7 = (6 : Int32) by decide), if_pos (show nI 7 = (7 : Int32) from rfl)]
        rw [eL (by omega) (by omega), show lin2 (tks T n) 7 (i + 1) E td o = lawF (sLaw (tks T n) (i + 1) E (td ||| 2 ^ 7) o) from if_pos rfl]
        obtain ⟨τ, v1, v2⟩ := c_lawL hA hv hT hr h4 hK (td := td ||| 2 ^ 7) (hI.w (w := 7) (by omega)).2.2.2 (hM z0 rfl)
        refine ⟨τ, v1.mono (fun a j z => Or.inl z), ?_⟩
        rcases v2 with ⟨f, j, v2, v3, v4⟩ | ⟨i', E', td', o', v2, v3, v4, v5, v6, v7, v8⟩
        · rw [v2]
          exact Or.inl ⟨f, j, rfl, rz0_b v3, v4⟩
        · have e14 : ah_I τ t 14 = ah_I σ t 14 := v1.I (by unfold Xcw Xlw Xfm Xs8 Xrn; omega)
          have er : ah_R τ 82 2 = some t := (v1.R (Or.inr (by unfold Xcw Xlw Xfm Xs8 Xrn; omega))).trans hr
          have hct : CTd τ t td' := by
            refine ⟨m, e14.trans m1, m2, fun v hv' => ?_⟩
            have hd : td' = (td ||| 2 ^ 7) ||| 2 ^ (16 + (tV (tks T n (i + 1)) - 12)) := by
              have v2 := v2
              unfold sLaw at v2
              split at v2
              · split at v2
                · exact nomatch v2
                · split at v2
                  · exact nomatch v2
                  · cases v2; rfl
              · exact nomatch v2
            rw [m3 v hv', hd, tb_set, tb_set]
            exact ⟨fun q => Or.inl (Or.inl q), fun q => q.elim (fun q => q.resolve_right (by omega)) (fun q => by omega)⟩
          rw [v2]
          exact Or.inr (Or.inr ⟨i', E', td', o', rfl, rz1_b v3, ⟨v7, v8⟩, v4, v5, er, hct, v6⟩)
      · rw [if_neg (show ¬ nI 8 = (0 : Int32) by decide), if_neg (show ¬ nI 8 = (1 : Int32) by decide), if_neg (show ¬ nI 8 = (2 : Int32) by decide), if_neg (show ¬ nI 8 = (3 : Int32) by decide), if_neg (show ¬ nI 8 = (4 : Int32) by decide), if_neg (show ¬ nI 8 = (5 : Int32) by decide), if_neg (show ¬ nI 8 = (6 : Int32) by decide), if_neg (show ¬ nI 8 = (7 : Int32) by decide), if_pos (show nI 8 = (8 : Int32) from rfl)]
        by_cases y : m.testBit 8 = true
        · obtain ⟨τ, v1, v2, -, v3, -⟩ := c_twice hA hT hr (w := 8) (by omega) z0 hw m1 m2 y
          exact ⟨τ, v1.mono Xrn_x, Or.inl ⟨3, i, eO (by omega) ⟨by omega, (m3 8 (by omega)).mp y⟩, rz0_b (v3 rfl), v2⟩⟩
        · obtain ⟨τ, v1, v2, v3⟩ := c_carL hA hT hr h4 m1 m2 y
          rw [eL (by omega) (fun q => y ((m3 8 (by omega)).mpr q.2))]
          exact ⟨τ, v1.mono Xcm_x, c_lfin htn (by omega) (by omega) v1 hr hK (CYo.rz v2) (fun q => ⟨(v3 q).1, CTd.on m2 m3 (by omega) (v3 q).2⟩)⟩
    · have hc9 : 9 ≤ ckw (tV (tks T n i)) ∧ ckw (tV (tks T n i)) < 100 := by
        unfold ckw; split
        · omega
        · split <;> omega
      have nn : ∀ k, k ≤ 8 → ¬ nI (ckw (tV (tks T n i))) = nI k := fun k hk' => by rw [eq_nI (by omega) (by omega)]; omega
      rw [if_neg (show ¬ _ = (0 : Int32) from nn 0 (by omega)), if_neg (show ¬ _ = (1 : Int32) from nn 1 (by omega)), if_neg (show ¬ _ = (2 : Int32) from nn 2 (by omega)), if_neg (show ¬ _ = (3 : Int32) from nn 3 (by omega)), if_neg (show ¬ _ = (4 : Int32) from nn 4 (by omega)), if_neg (show ¬ _ = (5 : Int32) from nn 5 (by omega)), if_neg (show ¬ _ = (6 : Int32) from nn 6 (by omega)), if_neg (show ¬ _ = (7 : Int32) from nn 7 (by omega)), if_neg (show ¬ _ = (8 : Int32) from nn 8 (by omega))]
      exact bad (fun q => z1 q.2)
  · rw [if_neg (show ¬ ah_I σ 83 8 = (2 : Int32) from fun w => z0 (hk.key.mp w))]
    exact bad (fun q => z0 q.1)
end
