/-! LINES OF THE CLASS: a line -/
def CTd (σ : ah_H) (t td : Nat) : Prop := ∃ m, ah_I σ t 14 = nI m ∧ m < 2 ^ 24 ∧ ∀ w, isOn w → (m.testBit w = true ↔ td.testBit w = true)
def CLn (σ : ah_H) (T : Nat → Nat) (n N t i : Nat) (E : DD) (td : Nat) (o : List (Nat × Nat)) : Prop := CAt σ T n N i ∧ TR σ t E ∧ ah_R σ 82 2 = some t ∧ CTd σ t td ∧ KnC σ t o
/-- what readLine comes to -/
def CRo (r : Option (Int32 × ah_H)) (T : Nat → Nat) (n N t : Nat) (L : LnT) (τ : ah_H) : Prop := (∃ f j, L = .inl (f, j) ∧ r = some (nI 0, τ) ∧ CFl τ T n f j) ∨ (∃ i1, L = .inl (1, i1) ∧ r = some (nI 1, τ) ∧ CAt τ T n N i1 ∧ ¬ (tS (tks T n i1) = 3 ∧ tV (tks T n i1) = 59)) ∨ (∃ i1 E' td' o', L = .inr (i1 + 1, E', td', o') ∧ r = some (nI 1, τ) ∧ (tS (tks T n i1) = 3 ∧ tV (tks T n i1) = 59) ∧ CLn τ T n N t i1 E' td' o')
def Xcx (t a j : Nat) : Prop := Xcw t a j ∨ Xcm t a j
section
variable {σ τ : ah_H} {T : Nat → Nat} {n N i t : Nat} {E E' : DD} {td : Nat} {o : List (Nat × Nat)}
theorem KnC.fr2 (h : KnC σ t o) {X : Nat → Nat → Prop} (g : Fr X σ τ) (hX : ∀ a j, t + 33 ≤ a → a ≤ t + 35 → ¬ X a j) : KnC τ t o := ⟨h.1, (g.I (hX _ _ (by omega) (by omega))).trans h.2.1, (g.I (hX _ _ (by omega) (by omega))).trans h.2.2.1, fun j hj => by rw [g.I (hX _ _ (by omega) (by omega)), g.I (hX _ _ (by omega) (by omega))]; exact h.2.2.2 j hj⟩
/-- behind the body of a line -/
theorem c_lfin (htn : Tn t) {w : Nat} (hw : w ≤ 8) (hw7 : w ≠ 7) {r : Option (Int32 × ah_H)} (g : Fr (Xcm t) σ τ) (hr : ah_R σ 82 2 = some t) (hK : KnC σ t o) (h : CYo r τ T n N (bod (tks T n) E w (i, none)).1) (hT : (bod (tks T n) E w (i, none)).1.2 = none → TR τ t (bod (tks T n) E w (i, none)).2 ∧ CTd τ t (td ||| 2 ^ w)) : CRo r T n N t (lin2 (tks T n) w i E td o) τ := by
  have hTt : t = 2 ∨ t = 42 := htn
  unfold lin2
  rw [if_neg hw7]
  generalize hb : bod (tks T n) E w (i, none) = B at *
  obtain ⟨⟨i1, s1⟩, E1⟩ := B
  cases s1 with
  | some x =>
    obtain ⟨f, j⟩ := x
    exact Or.inl ⟨f, j, rfl, h.1, h.2⟩
  | none =>
    have e : semi (tks T n) (i1, none) = if tS (tks T n i1) = 3 ∧ tV (tks T n i1) = 59 then (i1 + 1, none) else (i1, some (1, i1)) := rfl
    simp only
    rw [e]
    by_cases z : tS (tks T n i1) = 3 ∧ tV (tks T n i1) = 59
    · rw [if_pos z]
      refine Or.inr (Or.inr ⟨i1, E1, td ||| 2 ^ w, o, rfl, h.1, z, h.2, (hT rfl).1, ?_, (hT rfl).2, ?_⟩)
      · exact (g.R (Or.inr (by unfold Xcm Xrn; omega))).trans hr
      · exact hK.fr2 g (fun a j h1 h2 q => by unfold Xcm Xrn at q; omega)
    · rw [if_neg z]
      exact Or.inr (Or.inl ⟨i1, rfl, h.1, h.2, z⟩)
theorem CTd.w (h : CTd σ t td) {w : Nat} (hw : w ≤ 8) (hn : ¬ isOn w) (e : ah_I τ t 14 = ah_I σ t 14) : CTd τ t (td ||| 2 ^ w) := by
  obtain ⟨m, h1, h2, h3⟩ := h
  refine ⟨m, e.trans h1, h2, fun v hv => ?_⟩
  rw [tb_set, h3 v hv]
  exact ⟨Or.inl, fun z => z.resolve_right (fun q => hn (by rw [← q]; exact hv))⟩
theorem CTd.on {m w : Nat} (h2 : m < 2 ^ 24) (h3 : ∀ w, isOn w → (m.testBit w = true ↔ td.testBit w = true)) (hw : w ≤ 8) (e : ah_I τ t 14 = nI (m ||| 2 ^ w)) : CTd τ t (td ||| 2 ^ w) := ⟨m ||| 2 ^ w, e, or_b h2 (pw_b (by omega)), fun v hv => by rw [tb_set, tb_set, h3 v hv]⟩
theorem Xcl_m : ∀ a j, Xcl t a j → Xcm t a j := fun a j z => by
  rcases z with z | z | z
  · exact Or.inl z
  · exact Or.inr (Or.inl ⟨z.1, by omega⟩)
  · exact Or.inr (Or.inr z)
theorem CYo.rz {r : Option (Int32 × ah_H)} {s : LnS} (h : CYo r τ T n N s) : CYo (r.bind fun r5 => (op_rz r5.1).map fun q => (q, r5.2)) τ T n N s := by
  obtain ⟨i1, _ | ⟨f, j⟩⟩ := s
  · exact ⟨by rw [h.1, bd_s, rz_1]; rfl, h.2⟩
  · exact ⟨by rw [h.1, bd_s, rz_0]; rfl, h.2⟩
end
