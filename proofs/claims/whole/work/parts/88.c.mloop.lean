/-! THE REFERENCE: expressions go as the machine does -/
def lvl (w : Nat) : Nat := if w = 0 then 1 else if w = 1 then 2 else if w = 2 then 3 else if w = 3 then 5 else if w = 4 then 6 else 7
def tlv (w : Nat) : Nat := if w = 0 then 0 else if w = 1 then 1 else if w = 2 then 3 else if w = 3 then 4 else if w = 4 then 5 else 6
def sg2 (P : List Nat) : List (Nat × Nat) := P.map (fun x => (2, x))
/-- it went well: the machine is as far, with signs that still wait -/
def XpG (T : Nat → Nat) (n w : Nat) (m0 : MS) (o : List (Nat × Nat)) (S : List Nat) (p c : Nat) (σ : ah_H) : Prop := ∃ i' o' c' P om g, XpR σ T n i' o' p c' ∧ mto (tks T n) m0 (i', om, P ++ S, p, c', false) ∧ (∀ x, x ∈ P → lvl w ≤ bnd x) ∧ o' = om ++ sg2 P ∧ fol w (tks T n i') P ∧ o' = o ++ g ∧ seg1 g ∧ c' = c + g.length
def XpO (T : Nat → Nat) (n w : Nat) (m0 : MS) (o : List (Nat × Nat)) (S : List Nat) (p c : Nat) (σ : ah_H) : Prop := (∃ f j, XpF σ T n f j ∧ mfl (tks T n) m0 f j) ∨ XpG T n w m0 o S p c σ
/-- a 'not' is not due here -/
def ntk (w : Nat) (k : TK) (S : List Nat) : Prop := 3 ≤ w → ¬ (tS k = 0 ∧ tV k = 17) ∨ 4 ≤ topb S
section
variable {T : Nat → Nat} {n : Nat}
theorem mst_op {k : Nat → TK} {i p c v L : Nat} {om : List (Nat × Nat)} {P S : List Nat} (hv : jsg (k i) = v) (hb : bnd v = L) (h0 : L ≠ 0) (h4 : L ≠ 4) (n1 : ¬ (tS (k i) = 3 ∧ tV (k i) = 59)) (n2 : ¬ (tS (k i) = 3 ∧ tV (k i) = 41)) (hP : ∀ x, x ∈ P → L ≤ bnd x) (hS : topb S < L) : mst k (i, om, P ++ S, p, c, false) = if 64 ≤ c then .inl (2, i) else .inr (.inr (i + 1, om ++ sg2 P, v :: S, p, c + 1, true)) := by
  show (if (tS (k i) = 3 ∧ tV (k i) = 59) ∧ p = 0 then _ else if (tS (k i) = 3 ∧ tV (k i) = 41) ∧ 0 < p then _ else if bnd (jsg (k i)) = 0 then _ else if bnd (jsg (k i)) = 4 then _ else jon i om (P ++ S) p c (jsg (k i))) = _
  rw [if_neg (fun z => n1 z.1), if_neg (fun z => n2 z.1), hv, hb, if_neg h0, if_neg h4]
  unfold jon
  rw [hb, rels_app P S om hP, rels_stop (Or.inr hS)]
  rfl
theorem sg2_app (P Q : List Nat) : sg2 (P ++ Q) = sg2 P ++ sg2 Q := by unfold sg2; rw [List.map_append]
theorem fol_app {w : Nat} {k : TK} {P Q : List Nat} (h : fol w k P) : fol w k (P ++ Q) := ⟨h.1, h.2.1, fun z => (h.2.2.1 z).imp (fun z => z) blk_app, h.2.2.2⟩
variable {LP : Nat → ah_H → Option ah_H} {Sub : ah_H → Option ah_H} {w : Nat} {opq : TK → Nat} {c0 p0 : Nat}
/-- signs of one level, one after the other -/
theorem x_loop (hw : w = 0 ∨ w = 1 ∨ w = 3 ∨ w = 4) (hop : ∀ k, opq k ≠ 0 → bnd (opq k) = lvl w ∧ sgO (opq k) ∧ opq k ≠ 260 ∧ jsg k = opq k ∧ tS k ≠ 4 ∧ ¬ (tS k = 3 ∧ tV k = 59) ∧ ¬ (tS k = 3 ∧ tV k = 41)) (hfol : ∀ k P, opq k = 0 → fol (w + 1) k P → fol w k P) (hno : ∀ fu σ i o p c, XpR σ T n i o p c → opq (tks T n i) = 0 → LP (fu + 1) σ = some σ) (hyes : ∀ fu σ i o p c, XpR σ T n i o p c → opq (tks T n i) ≠ 0 → LP (fu + 1) σ = (f_X12_knot 225 σ).bind fun r2 => (f_X12_goOn 225 r2).bind fun r3 => (Sub r3).bind fun r4 => (f_X12_puts 225 (nI 2) (nI (opq (tks T n i))) r4).bind (LP fu)) (hLf : ∀ fu σ, Wf σ → ah_I σ 225 29 ≠ nI 0 → LP (fu + 1) σ = some σ) (hSf : ∀ σ, Wf σ → ah_I σ 225 29 ≠ nI 0 → Sub σ = some σ) (hS : ∀ σ i o S c, XpR σ T n i o p0 c → c0 ≤ c → topb S ≤ tlv (w + 1) → ntk (w + 1) (tks T n i) S → ∃ σ', Sub σ = some σ' ∧ Fr Xxp σ σ' ∧ XpO T n (w + 1) (i, o, S, p0, c, true) o S p0 c σ') {S : List Nat} (hS0 : topb S ≤ tlv w) {m0 : MS} {o0 : List (Nat × Nat)} {c00 : Nat} : ∀ f fu σ i o c P om g, 64 - c ≤ f → f + 1 < fu → c0 ≤ c → XpR σ T n i o p0 c → mto (tks T n) m0 (i, om, P ++ S, p0, c, false) → (∀ x, x ∈ P → lvl w ≤ bnd x) → o = om ++ sg2 P → fol (w + 1) (tks T n i) P → o = o0 ++ g → seg1 g → c = c00 + g.length → ∃ σ', LP fu σ = some σ' ∧ Fr Xxp σ σ' ∧ XpO T n w m0 o0 S p0 c00 σ' := by
  have hl : tlv w < lvl w ∧ lvl w ≠ 0 ∧ lvl w ≠ 4 ∧ lvl w ≤ tlv (w + 1) ∧ lvl w ≤ lvl (w + 1) := by
    rcases hw with rfl | rfl | rfl | rfl <;> decide
  intro f
  induction f with
  | zero =>
    intro fu σ i o c P om g hf hfu hc0 hX hm hP ho hfo hog hg hcg
    obtain ⟨fu, rfl⟩ : ∃ q, fu = q + 1 := ⟨fu - 1, by omega⟩
    have h64 := hX.2.2.2.2.1
    by_cases z : opq (tks T n i) = 0
    · exact ⟨σ, hno fu σ i o p0 c hX z, Fr.rfl, Or.inr ⟨i, o, c, P, om, g, hX, hm, hP, ho, hfol _ _ z hfo, hog, hg, hcg⟩⟩
    obtain ⟨o1, o2, o3, o4, o5, o6, o7⟩ := hop _ z
    obtain rfl : c = 64 := by omega
    obtain ⟨τ, e1, e2, e3⟩ := m_knot64 hX
    have hst := mst_op (k := tks T n) (p := p0) (c := 64) (om := om) (P := P) (S := S) o4 o1 hl.2.1 hl.2.2.1 o6 o7 hP (by omega)
    rw [if_pos (Nat.le_refl 64)] at hst
    refine ⟨τ, ?_, e2, Or.inl ⟨2, i, e3, hm.fl (mst_fl hst)⟩⟩
    obtain ⟨fu, rfl⟩ : ∃ q, fu = q + 1 := ⟨fu - 1, by omega⟩
    rw [hyes _ σ i o p0 64 hX z, e1, bd_s, m_goOnF e3.1 e3.ne, bd_s, hSf τ e3.1 e3.ne, bd_s, m_putsF e3.1 e3.ne, bd_s, hLf fu τ e3.1 e3.ne]
  | succ f ih =>
    intro fu σ i o c P om g hf hfu hc0 hX hm hP ho hfo hog hg hcg
    obtain ⟨fu, rfl⟩ : ∃ q, fu = q + 1 := ⟨fu - 1, by omega⟩
    have h64 := hX.2.2.2.2.1
    by_cases z : opq (tks T n i) = 0
    · exact ⟨σ, hno fu σ i o p0 c hX z, Fr.rfl, Or.inr ⟨i, o, c, P, om, g, hX, hm, hP, ho, hfol _ _ z hfo, hog, hg, hcg⟩⟩
    obtain ⟨o1, o2, o3, o4, o5, o6, o7⟩ := hop _ z
    have hst := mst_op (k := tks T n) (p := p0) (c := c) (om := om) (P := P) (S := S) o4 o1 hl.2.1 hl.2.2.1 o6 o7 hP (by omega)
    obtain ⟨fu, rfl⟩ : ∃ q, fu = q + 1 := ⟨fu - 1, by omega⟩
    rw [hyes _ σ i o p0 c hX z]
    by_cases zc : c = 64
    · subst zc
      obtain ⟨τ, e1, e2, e3⟩ := m_knot64 hX
      rw [if_pos (Nat.le_refl 64)] at hst
      refine ⟨τ, ?_, e2, Or.inl ⟨2, i, e3, hm.fl (mst_fl hst)⟩⟩
      rw [e1, bd_s, m_goOnF e3.1 e3.ne, bd_s, hSf τ e3.1 e3.ne, bd_s, m_putsF e3.1 e3.ne, bd_s, hLf fu τ e3.1 e3.ne]
    · rw [if_neg (by omega), ← ho] at hst
      have hm1 := hm.tr (mst_to hst)
      obtain ⟨τ1, e1, f1, x1⟩ := m_knot hX (by omega)
      obtain ⟨τ2, e2, f2, x2⟩ := m_goOn x1 o5
      obtain ⟨τ3, e3, f3, x3⟩ := hS τ2 (i + 1) o (opq (tks T n i) :: S) (c + 1) x2 (by omega) (by show bnd (opq (tks T n i)) ≤ _; omega) (fun hw3 => Or.inr (by
        show 4 ≤ bnd (opq (tks T n i))
        rw [o1]
        rcases hw with rfl | rfl | rfl | rfl
        · omega
        · omega
        · decide
        · decide))
      rw [e1, bd_s, e2, bd_s, e3, bd_s]
      have f123 : Fr Xxp σ τ3 := (f1.trans (f2.mono Xtk_x)).trans f3
      rcases x3 with ⟨ff, jj, y1, y2⟩ | ⟨i2, oo, c2, P2, om2, g2, y1, y2, y3, y4, y5, y6, y7, y8⟩
      · refine ⟨τ3, ?_, f123, Or.inl ⟨ff, jj, y1, hm1.fl y2⟩⟩
        rw [m_putsF y1.1 y1.ne, bd_s, hLf fu τ3 y1.1 y1.ne]
      · have hlen : oo.length < c2 := by
          have h7 := hX.2.2.2.2.2.2.1
          rw [y6, List.length_append]
          omega
        obtain ⟨τ4, e4, f4, x4⟩ := m_puts (s := 2) (v := opq (tks T n i)) y1 hlen
        rw [e4, bd_s]
        obtain ⟨τ5, e5, f5, x5⟩ := ih (fu + 1) τ4 i2 (oo ++ [(2, opq (tks T n i))]) c2 (P2 ++ [opq (tks T n i)]) om2 (g ++ g2 ++ [(2, opq (tks T n i))]) (by omega) (by omega) (by omega) x4 (by
          have := hm1.tr y2
          rw [show P2 ++ opq (tks T n i) :: S = P2 ++ [opq (tks T n i)] ++ S by simp] at this
          exact this) (fun x hx => by
          rw [List.mem_append, List.mem_singleton] at hx
          rcases hx with hx | hx
          · have := y3 x hx; omega
          · rw [hx]; omega) (by rw [sg2_app, y4]; simp [sg2]) (fol_app y5) (by rw [y6, hog]; simp) (seg1_bin hg y7 o2 o3) (by
          rw [List.length_append, List.length_append]
          show c2 = c00 + (g.length + g2.length + 1)
          omega)
        exact ⟨τ5, e5, (f123.trans f4).trans f5, x5⟩
/-- a level: a side, then signs -/
theorem x_lev (hw : w = 0 ∨ w = 1 ∨ w = 3 ∨ w = 4) (hop : ∀ k, opq k ≠ 0 → bnd (opq k) = lvl w ∧ sgO (opq k) ∧ opq k ≠ 260 ∧ jsg k = opq k ∧ tS k ≠ 4 ∧ ¬ (tS k = 3 ∧ tV k = 59) ∧ ¬ (tS k = 3 ∧ tV k = 41)) (hfol : ∀ k P, opq k = 0 → fol (w + 1) k P → fol w k P) (hno : ∀ fu σ i o p c, XpR σ T n i o p c → opq (tks T n i) = 0 → LP (fu + 1) σ = some σ) (hyes : ∀ fu σ i o p c, XpR σ T n i o p c → opq (tks T n i) ≠ 0 → LP (fu + 1) σ = (f_X12_knot 225 σ).bind fun r2 => (f_X12_goOn 225 r2).bind fun r3 => (Sub r3).bind fun r4 => (f_X12_puts 225 (nI 2) (nI (opq (tks T n i))) r4).bind (LP fu)) (hLf : ∀ fu σ, Wf σ → ah_I σ 225 29 ≠ nI 0 → LP (fu + 1) σ = some σ) (hSf : ∀ σ, Wf σ → ah_I σ 225 29 ≠ nI 0 → Sub σ = some σ) {σ : ah_H} {i p c : Nat} {o : List (Nat × Nat)} (hS : ∀ σ i o S c', XpR σ T n i o p c' → c ≤ c' → topb S ≤ tlv (w + 1) → ntk (w + 1) (tks T n i) S → ∃ σ', Sub σ = some σ' ∧ Fr Xxp σ σ' ∧ XpO T n (w + 1) (i, o, S, p, c', true) o S p c' σ') {S : List Nat} (hS0 : topb S ≤ tlv w) (hnt : ntk w (tks T n i) S) (hX : XpR σ T n i o p c) : ∃ σ', (Sub σ).bind (LP 5000) = some σ' ∧ Fr Xxp σ σ' ∧ XpO T n w (i, o, S, p, c, true) o S p c σ' := by
  have hl : tlv w ≤ tlv (w + 1) ∧ lvl w ≤ lvl (w + 1) := by
    rcases hw with rfl | rfl | rfl | rfl <;> decide
  obtain ⟨τ1, e1, f1, x1⟩ := hS σ i o S c hX (Nat.le_refl _) (by omega) (fun h3 => hnt (by omega))
  rw [e1, bd_s]
  rcases x1 with ⟨ff, jj, y1, y2⟩ | ⟨i2, oo, c2, P2, om2, g2, y1, y2, y3, y4, y5, y6, y7, y8⟩
  · exact ⟨τ1, hLf 4999 τ1 y1.1 y1.ne, f1, Or.inl ⟨ff, jj, y1, y2⟩⟩
  · obtain ⟨τ5, e5, f5, x5⟩ := x_loop (c0 := c) (p0 := p) hw hop hfol hno hyes hLf hSf hS hS0 (o0 := o) (c00 := c) (64 - c2) 5000 τ1 i2 oo c2 P2 om2 g2 (Nat.le_refl _) (by omega) (by omega) y1 y2 (fun x hx => by have := y3 x hx; omega) y4 y5 y6 y7 y8
    exact ⟨τ5, e5, f1.trans f5, x5⟩
end
