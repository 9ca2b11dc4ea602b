/-! THE LAW'S LOOP -/
section
variable {σ : ah_H} {N k : Nat} {xs : Nat → Int32}
theorem law_i {fc fr : ah_H → Option (Int32 × ah_H)} {K Z : ah_H → Option (Int32 × ah_H)} (hP : Pr fc fr) (hI : Inv σ) (hK : ∀ τ, Inv τ → ∃ υ, K τ = some (1, υ)) : ∃ υ, ((fc σ).bind fun r8 => (fr r8.2).bind fun r14 => if r8.1 = r14.1 then K r14.2 else Z r14.2) = some (1, υ) := by
  obtain ⟨v, σ1, σ2, e1, e2, e3⟩ := hP σ hI
  obtain ⟨υ, e4⟩ := hK σ2 e3
  refine ⟨υ, ?_⟩
  rw [e1, bd_s]
  show ((fr σ1).bind fun r14 => if v = r14.1 then K r14.2 else Z r14.2) = _
  rw [e2, bd_s]
  show (if v = v then K σ2 else Z σ2) = _
  rw [if_pos rfl, e4]
theorem lgc (v : Int64) : lg_cmp v v = 0 := by
  unfold lg_cmp
  simp
theorem law_l {fc fr : ah_H → Option (Int64 × ah_H)} {K Z : ah_H → Option (Int32 × ah_H)} (hP : Pr fc fr) (hI : Inv σ) (hK : ∀ τ, Inv τ → ∃ υ, K τ = some (1, υ)) : ∃ υ, ((fc σ).bind fun r8 => (fr r8.2).bind fun r14 => if lg_cmp r8.1 r14.1 = 0 then K r14.2 else Z r14.2) = some (1, υ) := by
  obtain ⟨v, σ1, σ2, e1, e2, e3⟩ := hP σ hI
  obtain ⟨υ, e4⟩ := hK σ2 e3
  refine ⟨υ, ?_⟩
  rw [e1, bd_s]
  show ((fr σ1).bind fun r14 => if lg_cmp v r14.1 = 0 then K r14.2 else Z r14.2) = _
  rw [e2, bd_s]
  show (if lg_cmp v v = 0 then K σ2 else Z σ2) = _
  rw [if_pos (lgc v), e4]
theorem law_look (a b : Int32) {K Z : ah_H → Option (Int32 × ah_H)} (hI : Inv σ) (hK : ∀ τ, Inv τ → ∃ υ, K τ = some (1, υ)) : ∃ υ, ((f_L_look 0 a b 271 σ).bind fun r31 => (f_X12_look 225 a b r31.2).bind fun r34 => (f_X12_thrown 225 r34.2).bind fun r35 => if r35.1 = r31.1 then (if r31.1 = 0 then ((op_aL r35.2 271 (0 : Int32)).bind fun v36 => if lg_cmp v36 (Int32.toInt64 r34.1) = 0 then K r35.2 else Z r35.2) else K r35.2) else Z r35.2) = some (1, υ) := by
  obtain ⟨t, D, hM, hC, hT⟩ := hI
  have hW := hM.w
  have g1 : Fr (fun x _ => x = 271) σ (ah_wL σ 271 0 (Int32.toInt64 (sLook D a b))) := Fr.rfl.wL rfl
  have nx : ∀ x y, x = 271 → ¬ PM x y := fun x y z p => by unfold PM at p; omega
  by_cases z : sThrown D a b = 0
  · have m1 := hM.fr g1 nx
    obtain ⟨τ, e1, e2, e3⟩ := m_look m1 a b
    have e4 := m_thrown (hW.fr g1 |>.fr e2)
    have i2 : Inv τ := ⟨t, D, m1.fr e2 Xq_pm, (hC.hi (g1.mono (fun x y z => by omega))).hi (e2.mono Xq_225), (hT.hi hM.t (g1.mono (fun x y z => by omega))).hi hM.t (e2.mono Xq_225)⟩
    obtain ⟨υ, e5⟩ := hK τ i2
    have eL : ah_L τ 271 0 = Int32.toInt64 (sLook D a b) := by rw [e2.L (by unfold Xq; omega)]; exact rL_eq
    have eA : op_aL τ 271 (0 : Int32) = some (ah_L τ 271 0) := (hW.fr g1 |>.fr e2).aL (k := 0) S0_271 (by decide) (by decide)
    have e0 : f_L_look 0 a b 271 σ = some (0, ah_wL σ 271 0 (Int32.toInt64 (sLook D a b))) := by
      unfold f_L_look
      rw [c_look hC, bd_s, if_pos z, show op_sL σ 271 (0 : Int32) (Int32.toInt64 (sLook D a b)) = some (ah_wL σ 271 0 (Int32.toInt64 (sLook D a b))) from hW.sL (k := 0) S0_271 (by decide) (by decide)]
      rfl
    refine ⟨υ, ?_⟩
    rw [e0, bd_s, e1, bd_s, e4, bd_s, e3, z, if_pos rfl, if_pos rfl, eA, bd_s, eL, if_pos (lgc _)]
    exact e5
  · obtain ⟨τ, e1, e2, e3⟩ := m_look hM a b
    have e4 := m_thrown (hW.fr e2)
    have i2 : Inv τ := ⟨t, D, hM.fr e2 Xq_pm, hC.hi (e2.mono Xq_225), hT.hi hM.t (e2.mono Xq_225)⟩
    obtain ⟨υ, e5⟩ := hK τ i2
    have e0 : f_L_look 0 a b 271 σ = some (sThrown D a b, σ) := by
      unfold f_L_look
      rw [c_look hC, bd_s, if_neg z]
    refine ⟨υ, ?_⟩
    rw [e0, bd_s, e1, bd_s, e4, bd_s, e3, if_pos rfl, if_neg z]
    exact e5
theorem op_sx_n {j : Nat} (h : 6 * k + j < N) (hN : N ≤ 384) {w : Int32} (hw : w = nI (6 * k + j)) : op_sx N xs 2000000 w = some (xs (6 * k + j)) := by
  unfold op_sx
  rw [if_pos rfl, hw, op_ix_n h (by omega)]
  rfl
theorem law_b (hN : N ≤ 384) (h : 6 * k + 6 ≤ N) (hI : Inv σ) {K23 : Nat → Nat → Nat → Nat → Int32 → ah_H → Option (Int32 × ah_H)} (hK : ∀ τ, Inv τ → ∃ υ, K23 2000000 0 225 271 (nI (6 * (k + 1))) τ = some (1, υ)) : ∃ υ, f_L_law_23_b N xs K23 2000000 0 225 271 (nI (6 * k)) σ = some (1, υ) := by
  have hK : ∀ τ, Inv τ → ∃ υ, f_L_law_1219 N xs K23 2000000 0 225 271 (nI (6 * k)) τ = some (1, υ) := fun τ hτ => by
    unfold f_L_law_1219
    rw [l_6, zadd, show 6 * k + 6 = 6 * (k + 1) by omega]
    exact hK τ hτ
  have s0 : op_sx N xs 2000000 (nI (6 * k)) = some (xs (6 * k)) := op_sx_n (j := 0) (by omega) hN rfl
  have s1 : op_sx N xs 2000000 (nI (6 * k) + (1 : Int32)) = some (xs (6 * k + 1)) := op_sx_n (by omega) hN (by rw [l_1, zadd])
  have s2 : op_sx N xs 2000000 (nI (6 * k) + (2 : Int32)) = some (xs (6 * k + 2)) := op_sx_n (by omega) hN (by rw [l_2, zadd])
  have s3 : op_sx N xs 2000000 (nI (6 * k) + (3 : Int32)) = some (xs (6 * k + 3)) := op_sx_n (by omega) hN (by rw [l_3, zadd])
  have s4 : op_sx N xs 2000000 (nI (6 * k) + (4 : Int32)) = some (xs (6 * k + 4)) := op_sx_n (by omega) hN (by rw [l_4, zadd])
  have s5 : op_sx N xs 2000000 (nI (6 * k) + (5 : Int32)) = some (xs (6 * k + 5)) := op_sx_n (by omega) hN (by rw [l_5, zadd])
  have sn : op_sn N 2000000 = some (nI N) := if_pos rfl
  have hlt : ¬ (nI N - (6 : Int32) < nI (6 * k)) := by
    rw [l_6, zsub (by omega), lt_nI (by omega) (by omega)]
    omega
  have e0 := hK
  unfold f_L_law_23_b
  rw [sn, bd_s, if_neg hlt, s0, bd_s]
  simp only [s1, s2, s3, s4, s5, bd_s, f_L_law_409]
  generalize xs (6 * k) &&& (31 : Int32) = V

  by_cases z0 : V = (0 : Int32)
  · rw [if_pos z0]; exact law_i (K := f_L_law_1219 N xs K23 2000000 0 225 271 (nI (6 * k))) (Z := fun τ => (op_rz (0 : Int32)).map fun q => (q, τ)) (P_feed _ _ _ _ _) hI hK
  rw [if_neg z0]
  by_cases z1 : V = (1 : Int32)
  · rw [if_pos z1]; exact law_i (K := f_L_law_1219 N xs K23 2000000 0 225 271 (nI (6 * k))) (Z := fun τ => (op_rz (0 : Int32)).map fun q => (q, τ)) (P_text _) hI hK
  rw [if_neg z1]
  by_cases z2 : V = (2 : Int32)
  · rw [if_pos z2]; exact law_i (K := f_L_law_1219 N xs K23 2000000 0 225 271 (nI (6 * k))) (Z := fun τ => (op_rz (0 : Int32)).map fun q => (q, τ)) (P_fault _) hI hK
  rw [if_neg z2]
  by_cases z3 : V = (3 : Int32)
  · rw [if_pos z3]; exact law_i (K := f_L_law_1219 N xs K23 2000000 0 225 271 (nI (6 * k))) (Z := fun τ => (op_rz (0 : Int32)).map fun q => (q, τ)) (P_named _ _) hI hK
  rw [if_neg z3]
  by_cases z4 : V = (4 : Int32)
  · rw [if_pos z4]; exact law_look _ _ (K := f_L_law_1219 N xs K23 2000000 0 225 271 (nI (6 * k))) (Z := fun τ => (op_rz (0 : Int32)).map fun q => (q, τ)) hI hK
  rw [if_neg z4]
  by_cases z5 : V = (5 : Int32)
  · rw [if_pos z5]; exact law_i (K := f_L_law_1219 N xs K23 2000000 0 225 271 (nI (6 * k))) (Z := fun τ => (op_rz (0 : Int32)).map fun q => (q, τ)) (P_street _ _) hI hK
  rw [if_neg z5]
  by_cases z6 : V = (6 : Int32)
  · rw [if_pos z6]; exact law_i (K := f_L_law_1219 N xs K23 2000000 0 225 271 (nI (6 * k))) (Z := fun τ => (op_rz (0 : Int32)).map fun q => (q, τ)) (P_pipe _ _) hI hK
  rw [if_neg z6]
  by_cases z7 : V = (7 : Int32)
  · rw [if_pos z7]; exact law_i (K := f_L_law_1219 N xs K23 2000000 0 225 271 (nI (6 * k))) (Z := fun τ => (op_rz (0 : Int32)).map fun q => (q, τ)) (P_lay _ _ _ _ _) hI hK
  rw [if_neg z7]
  by_cases z8 : V = (8 : Int32)
  · rw [if_pos z8]; exact law_i (K := f_L_law_1219 N xs K23 2000000 0 225 271 (nI (6 * k))) (Z := fun τ => (op_rz (0 : Int32)).map fun q => (q, τ)) (P_take _) hI hK
  rw [if_neg z8]
  by_cases z9 : V = (9 : Int32)
  · rw [if_pos z9]; exact law_i (K := f_L_law_1219 N xs K23 2000000 0 225 271 (nI (6 * k))) (Z := fun τ => (op_rz (0 : Int32)).map fun q => (q, τ)) (P_net _ _) hI hK
  rw [if_neg z9]
  by_cases z10 : V = (10 : Int32)
  · rw [if_pos z10]; exact law_l (K := f_L_law_1219 N xs K23 2000000 0 225 271 (nI (6 * k))) (Z := fun τ => (op_rz (0 : Int32)).map fun q => (q, τ)) (P_carries _) hI hK
  rw [if_neg z10]
  by_cases z11 : V = (11 : Int32)
  · rw [if_pos z11]; exact law_l (K := f_L_law_1219 N xs K23 2000000 0 225 271 (nI (6 * k))) (Z := fun τ => (op_rz (0 : Int32)).map fun q => (q, τ)) (P_cost _ _) hI hK
  rw [if_neg z11]
  by_cases z12 : V = (12 : Int32)
  · rw [if_pos z12]; exact law_l (K := f_L_law_1219 N xs K23 2000000 0 225 271 (nI (6 * k))) (Z := fun τ => (op_rz (0 : Int32)).map fun q => (q, τ)) (P_all) hI hK
  rw [if_neg z12]
  by_cases z13 : V = (13 : Int32)
  · rw [if_pos z13]; exact law_i (K := f_L_law_1219 N xs K23 2000000 0 225 271 (nI (6 * k))) (Z := fun τ => (op_rz (0 : Int32)).map fun q => (q, τ)) (P_broken _) hI hK
  rw [if_neg z13]
  by_cases z14 : V = (14 : Int32)
  · rw [if_pos z14]; exact law_i (K := f_L_law_1219 N xs K23 2000000 0 225 271 (nI (6 * k))) (Z := fun τ => (op_rz (0 : Int32)).map fun q => (q, τ)) (P_judged _) hI hK
  rw [if_neg z14]
  by_cases z15 : V = (15 : Int32)
  · rw [if_pos z15]; exact law_l (K := f_L_law_1219 N xs K23 2000000 0 225 271 (nI (6 * k))) (Z := fun τ => (op_rz (0 : Int32)).map fun q => (q, τ)) (P_flow _ _ _) hI hK
  rw [if_neg z15]
  by_cases z16 : V = (16 : Int32)
  · rw [if_pos z16]; exact law_l (K := f_L_law_1219 N xs K23 2000000 0 225 271 (nI (6 * k))) (Z := fun τ => (op_rz (0 : Int32)).map fun q => (q, τ)) (P_flooded _ _ _) hI hK
  rw [if_neg z16]
  by_cases z17 : V = (17 : Int32)
  · rw [if_pos z17]; exact law_l (K := f_L_law_1219 N xs K23 2000000 0 225 271 (nI (6 * k))) (Z := fun τ => (op_rz (0 : Int32)).map fun q => (q, τ)) (P_floods _) hI hK
  rw [if_neg z17]
  by_cases z18 : V = (18 : Int32)
  · rw [if_pos z18]; exact law_l (K := f_L_law_1219 N xs K23 2000000 0 225 271 (nI (6 * k))) (Z := fun τ => (op_rz (0 : Int32)).map fun q => (q, τ)) (P_worst _ _) hI hK
  rw [if_neg z18]
  by_cases z19 : V = (19 : Int32)
  · rw [if_pos z19]; exact law_i (K := f_L_law_1219 N xs K23 2000000 0 225 271 (nI (6 * k))) (Z := fun τ => (op_rz (0 : Int32)).map fun q => (q, τ)) (P_burst _) hI hK
  rw [if_neg z19]
  by_cases z20 : V = (20 : Int32)
  · rw [if_pos z20]; exact law_i (K := f_L_law_1219 N xs K23 2000000 0 225 271 (nI (6 * k))) (Z := fun τ => (op_rz (0 : Int32)).map fun q => (q, τ)) (P_bursts) hI hK
  rw [if_neg z20]
  by_cases z21 : V = (21 : Int32)
  · rw [if_pos z21]; exact law_l (K := f_L_law_1219 N xs K23 2000000 0 225 271 (nI (6 * k))) (Z := fun τ => (op_rz (0 : Int32)).map fun q => (q, τ)) (P_cheapest _) hI hK
  rw [if_neg z21]
  by_cases z22 : V = (22 : Int32)
  · rw [if_pos z22]; exact law_i (K := f_L_law_1219 N xs K23 2000000 0 225 271 (nI (6 * k))) (Z := fun τ => (op_rz (0 : Int32)).map fun q => (q, τ)) (P_laid _) hI hK
  rw [if_neg z22]
  by_cases z23 : V = (23 : Int32)
  · rw [if_pos z23]; exact law_l (K := f_L_law_1219 N xs K23 2000000 0 225 271 (nI (6 * k))) (Z := fun τ => (op_rz (0 : Int32)).map fun q => (q, τ)) (P_tree _) hI hK
  rw [if_neg z23]
  by_cases z24 : V = (24 : Int32)
  · rw [if_pos z24]; exact law_l (K := f_L_law_1219 N xs K23 2000000 0 225 271 (nI (6 * k))) (Z := fun τ => (op_rz (0 : Int32)).map fun q => (q, τ)) (P_without _ _) hI hK
  rw [if_neg z24]
  by_cases z25 : V = (25 : Int32)
  · rw [if_pos z25]; exact law_l (K := f_L_law_1219 N xs K23 2000000 0 225 271 (nI (6 * k))) (Z := fun τ => (op_rz (0 : Int32)).map fun q => (q, τ)) (P_stages _) hI hK
  rw [if_neg z25]
  by_cases z26 : V = (26 : Int32)
  · rw [if_pos z26]; exact law_l (K := f_L_law_1219 N xs K23 2000000 0 225 271 (nI (6 * k))) (Z := fun τ => (op_rz (0 : Int32)).map fun q => (q, τ)) (P_stage _ _) hI hK
  rw [if_neg z26]
  by_cases z27 : V = (27 : Int32)
  · rw [if_pos z27]; exact law_i (K := f_L_law_1219 N xs K23 2000000 0 225 271 (nI (6 * k))) (Z := fun τ => (op_rz (0 : Int32)).map fun q => (q, τ)) (P_first _) hI hK
  rw [if_neg z27]
  by_cases z28 : V = (28 : Int32)
  · rw [if_pos z28]; exact law_i (K := f_L_law_1219 N xs K23 2000000 0 225 271 (nI (6 * k))) (Z := fun τ => (op_rz (0 : Int32)).map fun q => (q, τ)) (P_undo) hI hK
  rw [if_neg z28]
  by_cases z29 : V = (29 : Int32)
  · rw [if_pos z29]; exact law_i (K := f_L_law_1219 N xs K23 2000000 0 225 271 (nI (6 * k))) (Z := fun τ => (op_rz (0 : Int32)).map fun q => (q, τ)) (P_keep) hI hK
  rw [if_neg z29]
  by_cases z30 : V = (30 : Int32)
  · rw [if_pos z30]; exact law_i (K := f_L_law_1219 N xs K23 2000000 0 225 271 (nI (6 * k))) (Z := fun τ => (op_rz (0 : Int32)).map fun q => (q, τ)) (P_back) hI hK
  rw [if_neg z30]
  by_cases z31 : V = (31 : Int32)
  · rw [if_pos z31]; exact law_i (K := f_L_law_1219 N xs K23 2000000 0 225 271 (nI (6 * k))) (Z := fun τ => (op_rz (0 : Int32)).map fun q => (q, τ)) (P_count _) hI hK
  rw [if_neg z31]
  exact hK σ hI
theorem law_loop (hN : N ≤ 384) : ∀ m k fu σ, N ≤ 6 * k + m → 6 * k ≤ 384 → m < fu → Inv σ → ∃ τ, f_L_law_23 N xs fu 2000000 0 225 271 (nI (6 * k)) σ = some (1, τ) := by
  intro m
  induction m with
  | zero =>
    intro k fu σ h1 h2 h3 hI
    obtain ⟨fu, rfl⟩ : ∃ q, fu = q + 1 := ⟨fu - 1, by omega⟩
    refine ⟨σ, ?_⟩
    show f_L_law_23_b _ _ _ _ _ _ _ _ _ = _
    unfold f_L_law_23_b
    have sn : op_sn N 2000000 = some (nI N) := if_pos rfl
    rw [sn, bd_s, l_6, jI_n N, jI_n 6, jsub, jI_n (6 * k), if_pos (by rw [jlt ⟨by omega, by omega⟩ ⟨by omega, by omega⟩]; omega)]
    rfl
  | succ m ih =>
    intro k fu σ h1 h2 h3 hI
    obtain ⟨fu, rfl⟩ : ∃ q, fu = q + 1 := ⟨fu - 1, by omega⟩
    show ∃ τ, f_L_law_23_b _ _ _ _ _ _ _ _ _ = _
    by_cases z : 6 * k + 6 ≤ N
    · exact law_b hN z hI (fun τ hτ => ih (k + 1) fu τ (by omega) (by omega) (by omega) hτ)
    · refine ⟨σ, ?_⟩
      unfold f_L_law_23_b
      have sn : op_sn N 2000000 = some (nI N) := if_pos rfl
      rw [sn, bd_s, l_6, jI_n N, jI_n 6, jsub, jI_n (6 * k), if_pos (by rw [jlt ⟨by omega, by omega⟩ ⟨by omega, by omega⟩]; omega)]
      rfl
end
