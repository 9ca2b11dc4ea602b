/-! THE REFERENCE: brackets and leaves, and expressions whole -/
section
variable {T : Nat → Nat} {n : Nat} {d : Nat} {σ : ah_H}
/-- a leaf is put -/
theorem m_leaf {S : Nat → Nat → ah_H → Option ah_H} {i p c s v : Nat} {o : List (Nat × Nat)} (hX : XpR σ T n i o p c) (he : tS (tks T n i) ≠ 4) (hc : c < 64) (hs : (s = 0 ∧ v ≤ 9999) ∨ (s = 1 ∧ v ≤ 5)) : ∃ τ1 τ', f_X12_knot 225 σ = some τ1 ∧ f_X12_primary_194 S 225 225 (nI s) (nI v) τ1 = some τ' ∧ Fr Xxp σ τ' ∧ XpR τ1 T n i o p (c + 1) ∧ XpR τ' T n (i + 1) (o ++ [(s, v)]) p (c + 1) := by
  obtain ⟨τ1, e1, f1, x1⟩ := m_knot hX hc
  have hlen : o.length < c + 1 := by have := hX.2.2.2.2.2.2.1; omega
  obtain ⟨τ2, e2, f2, x2⟩ := m_puts (s := s) (v := v) x1 hlen
  obtain ⟨τ3, e3, f3, x3⟩ := m_goOn x2 he
  refine ⟨τ1, τ3, e1, ?_, (f1.trans f2).trans (f3.mono Xtk_x), x1, x3⟩
  unfold f_X12_primary_194
  rw [e2, bd_s, e3, bd_s]
theorem m_194F {S : Nat → Nat → ah_H → Option ah_H} (hW : Wf σ) (hf : ah_I σ 225 29 ≠ nI 0) (x y : Int32) : f_X12_primary_194 S 225 225 x y σ = some σ := by
  unfold f_X12_primary_194
  rw [m_putsF hW hf, bd_s, m_goOnF hW hf, bd_s]
theorem m_162F {S : Nat → Nat → ah_H → Option ah_H} (hW : Wf σ) (hf : ah_I σ 225 29 ≠ nI 0) (x : Int32) : f_X12_primary_162 S 225 x σ = some σ := by
  have h28 : op_gI 12 28 σ 225 = some (ah_I σ 225 28) := gI_225 hW
  unfold f_X12_primary_162 f_X12_primary_176
  rw [m_knotF hW hf, bd_s]
  by_cases z : x = 0
  · rw [if_pos z, if_pos z, h28, bd_s]; exact m_194F hW hf _ _
  · rw [if_neg z, if_neg z, h28, bd_s]; exact m_194F hW hf _ _
theorem m_78F {S : Nat → Nat → ah_H → Option ah_H} (hW : Wf σ) (hf : ah_I σ 225 29 ≠ nI 0) : f_X12_primary_78 S 225 σ = some σ := by
  unfold f_X12_primary_78
  rw [gI_225 hW, bd_s]
  exact if_neg hf
theorem x_A (H : XpH T n d) {i p c : Nat} {o : List (Nat × Nat)} {S : List Nat} (hX : XpR σ T n i o p c) (hnt : ntk 5 (tks T n i) S) (hd : dpt 5 c p ≤ d + 1) : ∃ σ', f_ex (d + 1) 5 225 σ = some σ' ∧ Fr Xxp σ σ' ∧ XpO T n 5 (i, o, S, p, c, true) o S p c σ' := by
  unfold dpt at hd
  have hW := hX.1.w
  have h64 := hX.2.2.2.2.1
  have h8 := hX.2.2.2.2.2.1
  have hs5 := (tks_n (T := T) (n := n) i).2.2
  have hfo : ∀ k P, fol 5 k P := fun k P => ⟨fun w => by omega, fun w => by omega, fun w => by omega, fun w => by omega, fun w => by omega⟩
  have h27 : op_gI 12 27 σ 225 = some (nI (tS (tks T n i))) := by rw [gI_225 hW, hX.1.2.2.2.1]
  -- a leaf's outcome
  have leaf : ∀ (x1 : Int32) s v, tS (tks T n i) ≠ 4 → (x1 = nI 0 ∧ s = 1 ∧ tS (tks T n i) = 0 ∧ 18 ≤ tV (tks T n i) ∧ v = tV (tks T n i) - 18 ∨ x1 = nI 1 ∧ s = 0 ∧ tS (tks T n i) = 2 ∧ tV (tks T n i) ≤ 9999 ∧ v = tV (tks T n i)) → mst (tks T n) (i, o, S, p, c, true) = (if 64 ≤ c then .inl (2, i) else .inr (.inr (i + 1, o ++ [(s, v)], S, p, c + 1, false))) → ∃ σ', f_X12_primary_162 (f_ex d) 225 x1 σ = some σ' ∧ Fr Xxp σ σ' ∧ XpO T n 5 (i, o, S, p, c, true) o S p c σ' := by
    intro x1 s v he hx hst
    have hv23 := hX.1.v.1
    by_cases zc : c = 64
    · subst zc
      obtain ⟨τ, e1, e2, e3⟩ := m_knot64 hX
      rw [if_pos (Nat.le_refl 64)] at hst
      refine ⟨τ, ?_, e2, Or.inl ⟨2, i, e3, mst_fl hst⟩⟩
      have h28 : op_gI 12 28 τ 225 = some (ah_I τ 225 28) := gI_225 e3.1
      unfold f_X12_primary_162 f_X12_primary_176
      rw [e1, bd_s]
      by_cases z : x1 = 0
      · rw [if_pos z, if_pos z, h28, bd_s]; exact m_194F e3.1 e3.ne _ _
      · rw [if_neg z, if_neg z, h28, bd_s]; exact m_194F e3.1 e3.ne _ _
    · rw [if_neg (by omega)] at hst
      have hsv : (s = 0 ∧ v ≤ 9999) ∨ (s = 1 ∧ v ≤ 5) := by
        rcases hx with ⟨-, a, b, c, e⟩ | ⟨-, a, b, c, e⟩
        · have := hv23 b; omega
        · omega
      obtain ⟨τ1, τ', e1, e2, f2, y1, y2⟩ := m_leaf (S := f_ex d) (s := s) (v := v) hX he (by omega) hsv
      refine ⟨τ', ?_, f2, Or.inr ⟨i + 1, _, c + 1, [], o ++ [(s, v)], [(s, v)], y2, mst_to hst, fun x hx => by simp at hx, by simp [sg2], hfo _ _, rfl, seg1_leaf hsv, rfl⟩⟩
      have h28 : op_gI 12 28 τ1 225 = some (nI (tV (tks T n i))) := by
        rw [gI_225 y1.1.w, y1.1.2.2.2.2 (by rcases hx with h | h <;> omega)]
      unfold f_X12_primary_162 f_X12_primary_176
      rw [e1, bd_s]
      rcases hx with ⟨a0, a, b, c, e⟩ | ⟨a0, a, b, c, e⟩
      · have hv := hv23 b
        rw [if_pos (show x1 = 0 from a0), if_pos (show x1 = 0 from a0), h28, bd_s]
        rw [show nI (tV (tks T n i)) - (18 : Int32) = nI v by rw [e]; exact zsub c, ← e2, a]; rfl
      · have n0 : ¬ x1 = 0 := by rw [a0]; decide
        rw [if_neg n0, if_neg n0, h28, bd_s, ← e, ← e2, a]; rfl
  rw [f_exS, if_neg (by omega), if_neg (by omega), if_neg (by omega), if_neg (by omega), if_neg (by omega)]
  unfold b_X12_primary f_X12_primary_0
  rw [ck_225 hW, gI_225 hW, bd_s, hX.2.1]
  show ∃ σ', ((f_X12_isSign 225 (40 : Int32) σ).bind _) = _ ∧ _
  rw [show f_X12_isSign 225 (40 : Int32) σ = _ from m_isSign (w := 40) hX.1 hX.2.1 (by omega), bd_s]
  by_cases zb : tS (tks T n i) = 3 ∧ tV (tks T n i) = 40
  · -- a bracket
    rw [cI_t zb]
    have hst : mst (tks T n) (i, o, S, p, c, true) = if 8 ≤ p then .inl (2, i) else .inr (.inr (i + 1, o, 0 :: S, p + 1, c, true)) := by
      show (if tS (tks T n i) = 2 then _ else if tS (tks T n i) = 3 ∧ tV (tks T n i) = 40 then _ else _) = _
      rw [if_neg (by omega), if_pos zb]
    show ∃ σ', ((op_gI 12 33 σ 225).bind _) = _ ∧ _
    rw [gI_225 hW, bd_s, hX.2.2.1]
    by_cases z8 : p = 8
    · subst z8
      rw [if_pos (Nat.le_refl 8)] at hst
      obtain ⟨τ, e1, e2, e3⟩ := m_wrong (f := 2) hX.1 hX.2.1 (by omega) (by omega)
      refine ⟨τ, ?_, e2.mono Xwr_x, Or.inl ⟨2, i, e3, mst_fl hst⟩⟩
      rw [if_pos (show nI 8 = (8 : Int32) from rfl)]
      show (f_X12_wrong 225 (2 : Int32) σ).bind _ = _
      rw [show f_X12_wrong 225 (2 : Int32) σ = some τ from e1, bd_s]
      unfold f_X12_primary_31
      rw [gI_225 e3.1, bd_s]
      exact if_neg e3.ne
    · rw [if_neg (by omega)] at hst
      have n8 : ¬ nI p = (8 : Int32) := fun w => by
        have w : nI p = nI 8 := w
        rw [eq_nI (by omega) (by omega)] at w; omega
      rw [if_neg n8]
      show ∃ σ', f_X12_primary_31 (f_ex d) 225 σ = _ ∧ _
      have fo : Fr (fun a j => a = 225 ∧ j = 33) σ (ah_wI σ 225 33 (nI (p + 1))) := Fr.rfl.wI ⟨rfl, rfl⟩
      have xo : XpR (ah_wI σ 225 33 (nI (p + 1))) T n i o (p + 1) c := by
        obtain ⟨h1, h2, h3, h4, h5, h6, h7, h8, h9⟩ := hX
        exact ⟨h1.fr fo (fun a j z => by omega), by rw [fo.I (by omega)]; exact h2, rI_eq, by rw [fo.I (by omega)]; exact h4, h5, by omega, h7, by rw [fo.I (by omega)]; exact h8, fun j hj => by rw [fo.I (by omega), fo.I (by omega)]; exact h9 j hj⟩
      obtain ⟨τ1, e1, f1, x1⟩ := m_next xo.1 (by omega)
      have x1' : XpR τ1 T n (i + 1) o (p + 1) c := by
        obtain ⟨h1, h2, h3, h4, h5, h6, h7, h8, h9⟩ := xo
        exact ⟨x1, (f1.I (by unfold Xtk; omega)).trans h2, (f1.I (by unfold Xtk; omega)).trans h3, (f1.I (by unfold Xtk; omega)).trans h4, h5, h6, h7, (f1.I (by unfold Xtk; omega)).trans h8, fun j hj => by rw [f1.I (by unfold Xtk; omega), f1.I (by unfold Xtk; omega)]; exact h9 j hj⟩
      obtain ⟨τ2, e2, f2, x2⟩ := H 0 τ1 (i + 1) o (0 :: S) (p + 1) c (by omega) x1' (by show bnd 0 ≤ tlv 0; decide) (fun w => by omega) (by unfold dpt; omega)
      have hm1 := mst_to hst
      have f12 : Fr Xxp σ τ2 := ((fo.mono (fun a j z => by unfold Xxp; omega)).trans (f1.mono Xtk_x)).trans f2
      have hWo : Wf (ah_wI σ 225 33 (nI (p + 1))) := xo.1.w
      unfold f_X12_primary_31
      rw [gI_225 hW, bd_s, hX.2.1]
      show ∃ σ', ((op_gI 12 33 σ 225).bind _) = _ ∧ _
      rw [gI_225 hW, bd_s, hX.2.2.1, pI_225 hW, bd_s, show nI p + (1 : Int32) = nI (p + 1) from zadd _ _, e1, bd_s, e2, bd_s]
      rcases x2 with ⟨ff, jj, y1, y2⟩ | ⟨i1, o1, c1, P1, om1, g1, y1, y2, y3, y4, y5, y6, y7, y8⟩
      · refine ⟨τ2, ?_, f12, Or.inl ⟨ff, jj, y1, hm1.fl y2⟩⟩
        rw [gI_225 y1.1, bd_s, if_neg (show ¬ ah_I τ2 225 29 = 0 from y1.ne)]
        exact m_78F y1.1 y1.ne
      · have hW2 := y1.1.w
        rw [gI_225 hW2, bd_s, y1.2.1]
        show ∃ σ', ((f_X12_isSign 225 (41 : Int32) τ2).bind _) = _ ∧ _
        rw [show f_X12_isSign 225 (41 : Int32) τ2 = _ from m_isSign (w := 41) y1.1 y1.2.1 (by omega), bd_s]
        by_cases zc : tS (tks T n i1) = 3 ∧ tV (tks T n i1) = 41
        · rw [cI_t zc]
          show ∃ σ', f_X12_primary_78 (f_ex d) 225 τ2 = _ ∧ _
          have hst2 : mst (tks T n) (i1, om1, P1 ++ 0 :: S, p + 1, c1, false) = .inr (.inr (i1 + 1, o1, S, p, c1, false)) := by
            show ((if (tS (tks T n i1) = 3 ∧ tV (tks T n i1) = 59) ∧ p + 1 = 0 then _ else if (tS (tks T n i1) = 3 ∧ tV (tks T n i1) = 41) ∧ 0 < p + 1 then Sum.inr (Sum.inr (i1 + 1, (rels 1 (P1 ++ 0 :: S) om1).1, (rels 1 (P1 ++ 0 :: S) om1).2.tail, p + 1 - 1, c1, false)) else _) : MR) = _
            rw [if_neg (by omega), if_pos ⟨zc, by omega⟩, rels_app (L := 1) P1 _ om1 (fun x hx => y3 x hx), rels_stop (Or.inr (by show bnd 0 < 1; decide)), y4]
            rfl
          have fo2 : Fr (fun a j => a = 225 ∧ j = 33) τ2 (ah_wI τ2 225 33 (nI p)) := Fr.rfl.wI ⟨rfl, rfl⟩
          have xo2 : XpR (ah_wI τ2 225 33 (nI p)) T n i1 o1 p c1 := by
            obtain ⟨h1, h2, h3, h4, h5, h6, h7, h8, h9⟩ := y1
            exact ⟨h1.fr fo2 (fun a j z => by omega), by rw [fo2.I (by omega)]; exact h2, rI_eq, by rw [fo2.I (by omega)]; exact h4, h5, by omega, h7, by rw [fo2.I (by omega)]; exact h8, fun j hj => by rw [fo2.I (by omega), fo2.I (by omega)]; exact h9 j hj⟩
          obtain ⟨τ3, e3, f3, x3⟩ := m_next xo2.1 (by omega)
          have x3' : XpR τ3 T n (i1 + 1) o1 p c1 := by
            obtain ⟨h1, h2, h3, h4, h5, h6, h7, h8, h9⟩ := xo2
            exact ⟨x3, (f3.I (by unfold Xtk; omega)).trans h2, (f3.I (by unfold Xtk; omega)).trans h3, (f3.I (by unfold Xtk; omega)).trans h4, h5, h6, h7, (f3.I (by unfold Xtk; omega)).trans h8, fun j hj => by rw [f3.I (by unfold Xtk; omega), f3.I (by unfold Xtk; omega)]; exact h9 j hj⟩
          refine ⟨τ3, ?_, (f12.trans (fo2.mono (fun a j z => by unfold Xxp; omega))).trans (f3.mono Xtk_x), Or.inr ⟨i1 + 1, o1, c1, [], o1, g1, x3', (hm1.tr y2).tr (mst_to hst2), fun x hx => by simp at hx, by simp [sg2], hfo _ _, y6, y7, y8⟩⟩
          unfold f_X12_primary_78
          rw [gI_225 hW2, bd_s, y1.2.1]
          show (op_gI 12 33 τ2 225).bind _ = _
          rw [gI_225 hW2, bd_s, y1.2.2.1, pI_225 hW2, bd_s, show nI (p + 1) - (1 : Int32) = nI p from (zsub (a := p + 1) (b := 1) (by omega)), e3, bd_s]
        · rw [cI_f zc]
          obtain ⟨τ3, e3, f3, x3⟩ := m_wrong (f := 1) y1.1 y1.2.1 (by omega) (by omega)
          have hst2 := mst_bad (k := tks T n) (i := i1) (p := p + 1) (c := c1) (om := om1) (P := P1) (S := 0 :: S) y1.1.v.2.2.2 y5 (by omega) (fun w => zc w.1)
          refine ⟨τ3, ?_, f12.trans (f3.mono Xwr_x), Or.inl ⟨1, i1, x3, (hm1.tr y2).fl (mst_fl hst2)⟩⟩
          show (f_X12_wrong 225 (1 : Int32) τ2).bind _ = _
          rw [show f_X12_wrong 225 (1 : Int32) τ2 = some τ3 from e3, bd_s]
          exact m_78F x3.1 x3.ne
  · rw [cI_f zb]
    show ∃ σ', ((op_gI 12 27 σ 225).bind _) = _ ∧ _
    rw [h27, bd_s]
    by_cases z2 : tS (tks T n i) = 2
    · -- a number
      have hv := hX.1.v.2.2.1 z2
      have h28 : op_gI 12 28 σ 225 = some (nI (tV (tks T n i))) := by rw [gI_225 hW, hX.1.2.2.2.2 (by omega)]
      rw [if_pos (show nI (tS (tks T n i)) = (2 : Int32) by rw [z2]; rfl)]
      unfold f_X12_primary_114
      rw [if_neg (by decide : ¬ (1 : Int32) = 0), h28, bd_s]
      have el : (nI (tV (tks T n i)) ≤ (9999 : Int32)) = (tV (tks T n i) ≤ 9999) := le_nI (b := 9999) (by omega) (by omega)
      by_cases z9 : tV (tks T n i) ≤ 9999
      · rw [if_pos (by rw [el]; exact z9)]
        unfold f_X12_primary_137
        rw [if_neg (by decide : ¬ (1 : Int32) = 0)]
        refine leaf (1 : Int32) 0 (tV (tks T n i)) (by omega) (Or.inr ⟨rfl, rfl, z2, z9, rfl⟩) ?_
        show (if tS (tks T n i) = 2 then (if 9999 < tV (tks T n i) then _ else _) else _) = _
        rw [if_pos z2, if_neg (by omega)]
      · rw [if_neg (by rw [el]; exact z9)]
        obtain ⟨τ, e1, e2, e3⟩ := m_wrong (f := 2) hX.1 hX.2.1 (by omega) (by omega)
        refine ⟨τ, ?_, e2.mono Xwr_x, Or.inl ⟨2, i, e3, mst_fl ?_⟩⟩
        · rw [show f_X12_wrong 225 (2 : Int32) σ = some τ from e1, bd_s]
          exact m_162F e3.1 e3.ne _
        · show (if tS (tks T n i) = 2 then (if 9999 < tV (tks T n i) then _ else _) else _) = _
          rw [if_pos z2, if_pos (by omega)]
    · rw [if_neg (show ¬ nI (tS (tks T n i)) = (2 : Int32) from fun w => z2 (by
        have w : nI (tS (tks T n i)) = nI 2 := w
        rw [eq_nI (by omega) (by omega)] at w; exact w))]
      unfold f_X12_primary_114 f_X12_primary_137
      rw [if_pos rfl, if_pos rfl, h27, bd_s]
      have bad : (¬ (tS (tks T n i) = 0 ∧ 18 ≤ tV (tks T n i))) → ∃ σ', f_X12_primary_157 (f_ex d) 225 (0 : Int32) σ = some σ' ∧ Fr Xxp σ σ' ∧ XpO T n 5 (i, o, S, p, c, true) o S p c σ' := by
        intro hb
        obtain ⟨τ, e1, e2, e3⟩ := m_wrong (f := 1) hX.1 hX.2.1 (by omega) (by omega)
        refine ⟨τ, ?_, e2.mono Xwr_x, Or.inl ⟨1, i, e3, mst_fl ?_⟩⟩
        · unfold f_X12_primary_157
          rw [show f_X12_wrong 225 (1 : Int32) σ = some τ from e1, bd_s]
          exact m_162F e3.1 e3.ne _
        · show (if tS (tks T n i) = 2 then _ else if tS (tks T n i) = 3 ∧ tV (tks T n i) = 40 then _ else if tS (tks T n i) = 0 ∧ tV (tks T n i) = 17 ∧ topb S ≤ 3 then _ else if tS (tks T n i) = 0 ∧ 18 ≤ tV (tks T n i) then _ else _) = _
          have := hnt (by omega)
          rw [if_neg z2, if_neg zb, if_neg (by omega), if_neg hb]
      by_cases z0 : tS (tks T n i) = 0
      · have hv := hX.1.v.1 z0
        have h28 : op_gI 12 28 σ 225 = some (nI (tV (tks T n i))) := by rw [gI_225 hW, hX.1.2.2.2.2 (by omega)]
        have el : ((18 : Int32) ≤ nI (tV (tks T n i))) = (18 ≤ tV (tks T n i)) := le_nI (a := 18) (by omega) (by omega)
        rw [if_pos (show nI (tS (tks T n i)) = 0 by rw [z0]; rfl), h28, bd_s]
        by_cases z18 : 18 ≤ tV (tks T n i)
        · rw [if_pos (by rw [el]; exact z18)]
          refine leaf (0 : Int32) 1 (tV (tks T n i) - 18) (by omega) (Or.inl ⟨rfl, rfl, z0, z18, rfl⟩) ?_
          show (if tS (tks T n i) = 2 then _ else if tS (tks T n i) = 3 ∧ tV (tks T n i) = 40 then _ else if tS (tks T n i) = 0 ∧ tV (tks T n i) = 17 ∧ topb S ≤ 3 then _ else if tS (tks T n i) = 0 ∧ 18 ≤ tV (tks T n i) then _ else _) = _
          rw [if_neg z2, if_neg zb, if_neg (by omega), if_pos ⟨z0, z18⟩]
        · rw [if_neg (by rw [el]; exact z18)]
          exact bad (by omega)
      · rw [if_neg (show ¬ nI (tS (tks T n i)) = 0 from fun w => z0 (by
          have w : nI (tS (tks T n i)) = nI 0 := w
          rw [eq_nI (by omega) (by omega)] at w; exact w))]
        exact bad (by omega)
theorem x_all : ∀ d, XpH T n d := by
  intro d
  induction d with
  | zero => intro w σ i o S p c _ _ _ _ hd; unfold dpt at hd; omega
  | succ d H =>
    intro w σ i o S p c hw hX hS hnt hd
    have h6 : w = 0 ∨ w = 1 ∨ w = 2 ∨ w = 3 ∨ w = 4 ∨ w = 5 := by omega
    rcases h6 with rfl | rfl | rfl | rfl | rfl | rfl
    · exact x_E H hX hS hnt hd
    · exact x_C H hX hS hnt hd
    · exact x_N H hX hS hd
    · exact x_S H hX hS hnt hd
    · exact x_P H hX hS hnt hd
    · exact x_A H hX hnt hd
/-- an expression from the first token on -/
theorem m_expr {i c : Nat} {o : List (Nat × Nat)} (hX : XpR σ T n i o 0 c) : ∃ σ', f_X12_expression 225 σ = some σ' ∧ Fr Xxp σ σ' ∧ XpO T n 0 (i, o, [], 0, c, true) o [] 0 c σ' := by
  obtain ⟨σ', e1, e2, e3⟩ := x_all (T := T) (n := n) 200 0 σ i o [] 0 c (by omega) hX (by decide) (fun w => by omega) (by unfold dpt; omega)
  refine ⟨σ', ?_, e2, e3⟩
  unfold f_X12_expression
  rw [ck_225 hX.1.w]
  exact e1
end
