/-! THE REFERENCE: nots, comparisons, brackets, leaves -/
section
variable {T : Nat → Nat} {n : Nat} {d : Nat} {σ : ah_H}
theorem isC_b {k : TK} (h : isC k) : jsg k = tV k ∧ bnd (tV k) = 4 ∧ sgO (tV k) ∧ tV k ≠ 260 ∧ tS k ≠ 4 := by
  obtain ⟨h1, h2⟩ := h
  refine ⟨by unfold jsg; rw [if_neg (by omega), if_neg (by omega), if_pos h1], ?_, by omega, by omega, by omega⟩
  rcases h2 with h | h | h | h | h | h <;> rw [h] <;> decide
theorem mst_cmp {k : Nat → TK} {i p c : Nat} {om : List (Nat × Nat)} {P S : List Nat} (hC : isC (k i)) (hP : ∀ x, x ∈ P → 5 ≤ bnd x) (hS : topb S ≤ 3) : mst k (i, om, P ++ S, p, c, false) = if 64 ≤ c then .inl (2, i) else .inr (.inr (i + 1, om ++ sg2 P, tV (k i) :: S, p, c + 1, true)) := by
  obtain ⟨c1, c2, -⟩ := isC_b hC
  obtain ⟨h1, h2⟩ := hC
  show (if (tS (k i) = 3 ∧ tV (k i) = 59) ∧ p = 0 then _ else if (tS (k i) = 3 ∧ tV (k i) = 41) ∧ 0 < p then _ else if bnd (jsg (k i)) = 0 then _ else if bnd (jsg (k i)) = 4 then (if topb (rels 5 (P ++ S) om).2 = 4 then _ else jon i (rels 5 (P ++ S) om).1 (rels 5 (P ++ S) om).2 p c (jsg (k i))) else _) = _
  rw [if_neg (by omega), if_neg (by omega), c1, c2, if_neg (by omega), if_pos rfl, rels_app P S om hP, rels_stop (Or.inr (by omega))]
  show (if topb S = 4 then _ else jon i (om ++ sg2 P) S p c (tV (k i))) = _
  rw [if_neg (by omega)]
  unfold jon
  rw [c2, rels_stop (Or.inr (by omega))]
/-- behind the first sum -/
theorem m_negC {S : Nat → Nat → ah_H → Option ah_H} {i p c : Nat} {o : List (Nat × Nat)} (hX : XpR σ T n i o p c) : ((op_gI 12 29 σ 225).bind fun v3 => if v3 = 0 then ((op_gI 12 27 σ 225).bind fun v4 => if v4 = (3 : Int32) then ((op_gI 12 28 σ 225).bind fun v5 => if v5 = (60 : Int32) then (f_X12_negation_87 S 225 σ) else ((op_gI 12 28 σ 225).bind fun v6 => if v6 = (62 : Int32) then (f_X12_negation_87 S 225 σ) else ((op_gI 12 28 σ 225).bind fun v7 => if v7 = (61 : Int32) then (f_X12_negation_87 S 225 σ) else ((op_gI 12 28 σ 225).bind fun v8 => if (256 : Int32) ≤ v8 then (f_X12_negation_87 S 225 σ) else (some σ))))) else (some σ)) else (some σ)) = if isC (tks T n i) then f_X12_negation_87 S 225 σ else some σ := by
  have hW := hX.1.w
  have hs := (tks_n (T := T) (n := n) i).2.2
  rw [gI_225 hW, bd_s, hX.2.1]
  show ((op_gI 12 27 σ 225).bind _) = _
  rw [gI_225 hW, bd_s, hX.1.2.2.2.1]
  by_cases z : tS (tks T n i) = 3
  · have hv := hX.1.v.2.2.2 z
    rw [if_pos (show nI (tS (tks T n i)) = (3 : Int32) by rw [z]; rfl), gI_225 hW, bd_s, hX.1.2.2.2.2 (by omega)]
    have en : ∀ k, k < 1000 → (nI (tV (tks T n i)) = nI k ↔ tV (tks T n i) = k) := fun k hk => by rw [eq_nI (by omega) (by omega)]
    by_cases z1 : tV (tks T n i) = 60
    · rw [if_pos (show nI (tV (tks T n i)) = (60 : Int32) from (en 60 (by omega)).mpr z1), if_pos ⟨z, by omega⟩]
    rw [if_neg (show ¬ nI (tV (tks T n i)) = (60 : Int32) from fun w => z1 ((en 60 (by omega)).mp w)), bd_s]
    by_cases z2 : tV (tks T n i) = 62
    · rw [if_pos (show nI (tV (tks T n i)) = (62 : Int32) from (en 62 (by omega)).mpr z2), if_pos ⟨z, by omega⟩]
    rw [if_neg (show ¬ nI (tV (tks T n i)) = (62 : Int32) from fun w => z2 ((en 62 (by omega)).mp w)), bd_s]
    by_cases z3 : tV (tks T n i) = 61
    · rw [if_pos (show nI (tV (tks T n i)) = (61 : Int32) from (en 61 (by omega)).mpr z3), if_pos ⟨z, by omega⟩]
    rw [if_neg (show ¬ nI (tV (tks T n i)) = (61 : Int32) from fun w => z3 ((en 61 (by omega)).mp w)), bd_s]
    have el : ((256 : Int32) ≤ nI (tV (tks T n i))) = (256 ≤ tV (tks T n i)) := le_nI (a := 256) (by omega) (by omega)
    by_cases z4 : 256 ≤ tV (tks T n i)
    · rw [if_pos (by rw [el]; exact z4), if_pos ⟨z, by omega⟩]
    · rw [if_neg (by rw [el]; exact z4), if_neg (fun w => by omega)]
  · rw [if_neg (show ¬ nI (tS (tks T n i)) = (3 : Int32) from fun w => z (by
      have w : nI (tS (tks T n i)) = nI 3 := w
      rw [eq_nI (by omega) (by omega)] at w; exact w)), if_neg (fun w => z w.1)]
theorem x_N (H : XpH T n d) {i p c : Nat} {o : List (Nat × Nat)} {S : List Nat} (hX : XpR σ T n i o p c) (hS : topb S ≤ 3) (hd : dpt 2 c p ≤ d + 1) : ∃ σ', f_ex (d + 1) 2 225 σ = some σ' ∧ Fr Xxp σ σ' ∧ XpO T n 2 (i, o, S, p, c, true) o S p c σ' := by
  unfold dpt at hd
  have hW := hX.1.w
  have h64 := hX.2.2.2.2.1
  rw [f_exS, if_neg (by omega), if_neg (by omega), if_pos rfl]
  unfold b_X12_negation f_X12_negation_0
  rw [ck_225 hW, show f_X12_isWord 225 (17 : Int32) σ = _ from m_isWord (w := 17) hX.1 hX.2.1 (by omega), bd_s]
  by_cases z : tS (tks T n i) = 0 ∧ tV (tks T n i) = 17
  · rw [cI_t z]
    show ∃ σ', ((f_X12_knot 225 σ).bind fun r9 => (f_X12_goOn 225 r9).bind fun r10 => (f_ex d 2 225 r10).bind fun r11 => (f_X12_puts 225 (2 : Int32) (260 : Int32) r11).bind fun r12 => some r12) = _ ∧ _
    have hst : mst (tks T n) (i, o, S, p, c, true) = if 64 ≤ c then .inl (2, i) else .inr (.inr (i + 1, o, 260 :: S, p, c + 1, true)) := by
      show (if tS (tks T n i) = 2 then _ else if tS (tks T n i) = 3 ∧ tV (tks T n i) = 40 then _ else if tS (tks T n i) = 0 ∧ tV (tks T n i) = 17 ∧ topb S ≤ 3 then _ else _) = _
      rw [if_neg (by omega), if_neg (by omega), if_pos ⟨z.1, z.2, hS⟩]
    by_cases zc : c = 64
    · subst zc
      obtain ⟨τ, e1, e2, e3⟩ := m_knot64 hX
      rw [if_pos (Nat.le_refl 64)] at hst
      refine ⟨τ, ?_, e2, Or.inl ⟨2, i, e3, mst_fl hst⟩⟩
      rw [e1, bd_s, m_goOnF e3.1 e3.ne, bd_s, f_exF d 2 τ (by omega) (by omega) e3.1 e3.ne, bd_s, m_putsF e3.1 e3.ne, bd_s]
    · rw [if_neg (by omega)] at hst
      have hm1 := mst_to hst
      obtain ⟨τ1, e1, f1, x1⟩ := m_knot hX (by omega)
      obtain ⟨τ2, e2, f2, x2⟩ := m_goOn x1 (by omega)
      obtain ⟨τ3, e3, f3, x3⟩ := H 2 τ2 (i + 1) o (260 :: S) p (c + 1) (by omega) x2 (by show bnd 260 ≤ tlv 2; decide) (fun w => by omega) (by unfold dpt; omega)
      rw [e1, bd_s, e2, bd_s, e3, bd_s]
      have f123 : Fr Xxp σ τ3 := (f1.trans (f2.mono Xtk_x)).trans f3
      rcases x3 with ⟨ff, jj, y1, y2⟩ | ⟨i2, oo, c2, P2, om2, g2, y1, y2, y3, y4, y5, y6, y7, y8⟩
      · refine ⟨τ3, ?_, f123, Or.inl ⟨ff, jj, y1, hm1.fl y2⟩⟩
        rw [m_putsF y1.1 y1.ne, bd_s]
      · have hlen : oo.length < c2 := by
          have h7 := hX.2.2.2.2.2.2.1
          rw [y6, List.length_append]
          omega
        obtain ⟨τ4, e4, f4, x4⟩ := m_puts (s := 2) (v := 260) y1 hlen
        rw [show f_X12_puts 225 (2 : Int32) (260 : Int32) τ3 = some τ4 from e4, bd_s]
        refine ⟨τ4, rfl, f123.trans f4, Or.inr ⟨i2, _, c2, P2 ++ [260], om2, g2 ++ [(2, 260)], x4, ?_, fun x hx => ?_, ?_, fol_app y5, ?_, seg1_not y7, ?_⟩⟩
        · have := hm1.tr y2
          rw [show P2 ++ 260 :: S = P2 ++ [260] ++ S by simp] at this
          exact this
        · rw [List.mem_append, List.mem_singleton] at hx
          rcases hx with hx | hx
          · exact y3 x hx
          · rw [hx]; decide
        · rw [sg2_app, y4]; simp [sg2]
        · rw [y6]; simp
        · rw [List.length_append]
          show c2 = c + (g2.length + 1)
          omega
  · rw [cI_f z]
    show ∃ σ', ((f_ex d 3 225 σ).bind _) = _ ∧ _
    obtain ⟨τ1, e1, f1, x1⟩ := H 3 σ i o S p c (by omega) hX (by show topb S ≤ tlv 3; exact Nat.le_trans hS (by decide)) (fun _ => Or.inl z) (by unfold dpt; omega)
    rw [e1, bd_s]
    rcases x1 with ⟨ff, jj, y1, y2⟩ | ⟨i1, o1, c1, P1, om1, g1, y1, y2, y3, y4, y5, y6, y7, y8⟩
    · refine ⟨τ1, ?_, f1, Or.inl ⟨ff, jj, y1, y2⟩⟩
      rw [gI_225 y1.1, bd_s]
      exact if_neg y1.ne
    · rw [m_negC y1]
      have hW1 := y1.1.w
      have h641 := y1.2.2.2.2.1
      by_cases zC : isC (tks T n i1)
      · rw [if_pos zC]
        obtain ⟨b1, b2, b3, b4, b5⟩ := isC_b zC
        have hst := mst_cmp (k := tks T n) (p := p) (c := c1) (om := om1) (P := P1) (S := S) zC (fun x hx => y3 x hx) hS
        unfold f_X12_negation_87
        rw [gI_225 hW1, bd_s, y1.1.2.2.2.2 (by omega)]
        by_cases zc : c1 = 64
        · subst zc
          obtain ⟨τ, e1, e2, e3⟩ := m_knot64 y1
          rw [if_pos (Nat.le_refl 64)] at hst
          refine ⟨τ, ?_, f1.trans e2, Or.inl ⟨2, i1, e3, y2.fl (mst_fl hst)⟩⟩
          rw [e1, bd_s, m_goOnF e3.1 e3.ne, bd_s, f_exF d 3 τ (by omega) (by omega) e3.1 e3.ne, bd_s, m_putsF e3.1 e3.ne, bd_s]
        · rw [if_neg (by omega), ← y4] at hst
          have hm1 := y2.tr (mst_to hst)
          obtain ⟨τ2, e2, f2, x2⟩ := m_knot y1 (by omega)
          obtain ⟨τ3, e3, f3, x3⟩ := m_goOn x2 b5
          obtain ⟨τ4, e4, f4, x4⟩ := H 3 τ3 (i1 + 1) o1 (tV (tks T n i1) :: S) p (c1 + 1) (by omega) x3 (by show bnd (tV (tks T n i1)) ≤ tlv 3; rw [b2]; decide) (fun _ => Or.inr (by show 4 ≤ bnd (tV (tks T n i1)); omega)) (by unfold dpt; omega)
          rw [e2, bd_s, e3, bd_s, e4, bd_s]
          have f14 : Fr Xxp σ τ4 := ((f1.trans f2).trans (f3.mono Xtk_x)).trans f4
          rcases x4 with ⟨ff, jj, u1, u2⟩ | ⟨i2, oo, c2, P2, om2, g2, u1, u2, u3, u4, u5, u6, u7, u8⟩
          · refine ⟨τ4, ?_, f14, Or.inl ⟨ff, jj, u1, hm1.fl u2⟩⟩
            rw [m_putsF u1.1 u1.ne, bd_s]
          · have hlen : oo.length < c2 := by
              have h7 := y1.2.2.2.2.2.2.1
              rw [u6, List.length_append]
              omega
            obtain ⟨τ5, e5, f5, x5⟩ := m_puts (s := 2) (v := tV (tks T n i1)) u1 hlen
            rw [show f_X12_puts 225 (2 : Int32) (nI (tV (tks T n i1))) τ4 = some τ5 from e5, bd_s]
            refine ⟨τ5, rfl, f14.trans f5, Or.inr ⟨i2, _, c2, P2 ++ [tV (tks T n i1)], om2, g1 ++ g2 ++ [(2, tV (tks T n i1))], x5, ?_, fun x hx => ?_, ?_, ⟨fun _ => u5.1 (by omega), fun _ => u5.2.1 (by omega), fun _ => Or.inr ⟨P2, tV (tks T n i1), [], rfl, fun y hy => u3 y hy, b2⟩, fun w => by omega, fun w => by omega⟩, ?_, seg1_bin y7 u7 b3 b4, ?_⟩⟩
            · have := hm1.tr u2
              rw [show P2 ++ tV (tks T n i1) :: S = P2 ++ [tV (tks T n i1)] ++ S by simp] at this
              exact this
            · rw [List.mem_append, List.mem_singleton] at hx
              rcases hx with hx | hx
              · have h5 : 5 ≤ bnd x := u3 x hx
                show 3 ≤ bnd x
                omega
              · rw [hx, b2]; decide
            · rw [sg2_app, u4]; simp [sg2]
            · rw [u6, y6]; simp
            · rw [List.length_append, List.length_append]
              show c2 = c + (g1.length + g2.length + 1)
              omega
      · rw [if_neg zC]
        refine ⟨τ1, rfl, f1, Or.inr ⟨i1, o1, c1, P1, om1, g1, y1, y2, fun x hx => ?_, y4, ⟨fun _ => y5.1 (by omega), fun _ => y5.2.1 (by omega), fun _ => Or.inl zC, fun w => by omega, fun w => by omega⟩, y6, y7, y8⟩⟩
        have h5 : 5 ≤ bnd x := y3 x hx
        show 3 ≤ bnd x
        omega
/-- nothing of a level follows: the machine stops there -/
theorem mst_bad {k : Nat → TK} {i p c : Nat} {om : List (Nat × Nat)} {P S : List Nat} (hv3 : tS (k i) = 3 → tV (k i) ≤ 258) (hf : fol 0 (k i) P) (n1 : ¬ ((tS (k i) = 3 ∧ tV (k i) = 59) ∧ p = 0)) (n2 : ¬ ((tS (k i) = 3 ∧ tV (k i) = 41) ∧ 0 < p)) : mst k (i, om, P ++ S, p, c, false) = .inl (1, i) := by
  obtain ⟨f1, f2, f3, f4, f5⟩ := hf
  have f1 := f1 (by omega)
  have f2 := f2 (by omega)
  have f3 := f3 (by omega)
  have f4 := f4 (by omega)
  have f5 := f5 (by omega)
  show (if (tS (k i) = 3 ∧ tV (k i) = 59) ∧ p = 0 then _ else if (tS (k i) = 3 ∧ tV (k i) = 41) ∧ 0 < p then _ else if bnd (jsg (k i)) = 0 then _ else if bnd (jsg (k i)) = 4 then (if topb (rels 5 (P ++ S) om).2 = 4 then _ else jon i (rels 5 (P ++ S) om).1 (rels 5 (P ++ S) om).2 p c (jsg (k i))) else jon i om (P ++ S) p c (jsg (k i))) = _
  rw [if_neg n1, if_neg n2]
  have ej : jsg (k i) = if tS (k i) = 3 then tV (k i) else 0 := by unfold jsg; rw [if_neg f5, if_neg f4]
  by_cases zC : isC (k i)
  · obtain ⟨c1, c2, -⟩ := isC_b zC
    rw [c1, c2, if_neg (by omega), if_pos rfl]
    obtain ⟨P1, x, P2, e, h1, h2⟩ := f3.resolve_left (fun w => w zC)
    rw [e, List.append_assoc, rels_app P1 _ om h1, rels_stop (Or.inr (by show bnd x < 5; omega))]
    show (if bnd x = 4 then _ else _) = _
    rw [if_pos h2]
  · have : bnd (jsg (k i)) = 0 := by
      rw [ej]
      by_cases z3 : tS (k i) = 3
      · rw [if_pos z3]
        have q1 : ¬ (tV (k i) = 60 ∨ tV (k i) = 61 ∨ tV (k i) = 62 ∨ tV (k i) = 256 ∨ tV (k i) = 257 ∨ tV (k i) = 258) := fun w => zC ⟨z3, w⟩
        unfold bnd
        have hv := hv3 z3
        rw [if_neg (by omega), if_neg (by omega), if_neg (by omega), if_neg q1, if_neg (fun w => f2 ⟨z3, w⟩), if_neg (fun w => f1 ⟨z3, w⟩)]
      · rw [if_neg z3]; decide
    rw [this, if_pos rfl]
end
