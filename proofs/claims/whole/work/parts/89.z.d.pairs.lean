/-! BOTH SIDES, ONE CALL -/
/-- what holds between two calls -/
def Inv (σ : ah_H) : Prop := ∃ t D, MInv σ D ∧ CJ σ t D ∧ TI σ t D
def Pr {α : Type} (fc fr : ah_H → Option (α × ah_H)) : Prop := ∀ σ, Inv σ → ∃ v σ1 σ2, fc σ = some (v, σ1) ∧ fr σ1 = some (v, σ2) ∧ Inv σ2
section
variable {σ τ : ah_H} {t : Nat} {D D' : DD} {α : Type} {v : α} {o : Option (α × ah_H)} {fc fr : ah_H → Option (α × ah_H)}
theorem PM_225 {a j : Nat} (p : PM a j) : 225 ≤ a := by unfold PM at p; omega
theorem Xq_pm : ∀ a j, Xq a j → ¬ PM a j := fun a j z p => by unfold Xq at z; unfold PM at p; omega
theorem Xq_225 : ∀ a j, Xq a j → 225 ≤ a := fun a j z => by unfold Xq at z; omega
theorem TI.hi (h : TI σ t D) (ht : MT D) (g : Fr (fun a _ => 225 ≤ a) σ τ) : TI τ t D := h.fr ht.qp4 ht.qc7 g (fun a j _ => by omega)
theorem CJ.hi (h : CJ σ t D) (g : Fr (fun a _ => 225 ≤ a) σ τ) : CJ τ t D := h.fr g (fun a j _ => by omega)
theorem MInv.lo (h : MInv σ D) (g : Fr (fun a _ => a < 225) σ τ) : MInv τ D := h.fr g (fun a j z p => by have := PM_225 p; omega)
theorem Pr.q (H : ∀ σ t D, MInv σ D → CJ σ t D → TI σ t D → ∃ v σ1, fc σ = some (v, σ1) ∧ Fr (fun a _ => a < 225) σ σ1 ∧ CJ σ1 t D ∧ TI σ1 t D ∧ ∀ σ1, MInv σ1 D → ∃ σ2, fr σ1 = some (v, σ2) ∧ Fr Xq σ1 σ2) : Pr fc fr := by
  rintro σ ⟨t, D, h1, h2, h3⟩
  obtain ⟨v, σ1, e1, e2, e3, e4, e5⟩ := H σ t D h1 h2 h3
  have m1 := h1.lo e2
  obtain ⟨σ2, f1, f2⟩ := e5 σ1 m1
  have f3 := f2.mono Xq_225
  exact ⟨v, σ1, σ2, e1, f1, t, D, m1.fr f2 Xq_pm, e3.hi f3, e4.hi h1.t f3⟩
theorem Pr.c (H : ∀ σ t D, MInv σ D → CJ σ t D → TI σ t D → ∃ v σ1 t' D', fc σ = some (v, σ1) ∧ Fr (fun a _ => a < 225) σ σ1 ∧ CJ σ1 t' D' ∧ TI σ1 t' D' ∧ ∀ σ1, MInv σ1 D → ∃ σ2, fr σ1 = some (v, σ2) ∧ Fr Xch σ1 σ2 ∧ MInv σ2 D') : Pr fc fr := by
  rintro σ ⟨t, D, h1, h2, h3⟩
  obtain ⟨v, σ1, t', D', e1, e2, e3, e4, e5⟩ := H σ t D h1 h2 h3
  have m1 := h1.lo e2
  obtain ⟨σ2, f1, f2, f4⟩ := e5 σ1 m1
  have f3 : Fr (fun a _ => 225 ≤ a) σ1 σ2 := f2
  exact ⟨v, σ1, σ2, e1, f1, t', D', f4, e3.hi f3, e4.hi f4.t f3⟩
theorem Ok.q {X : Nat → Nat → Prop} (h : Ok o (fun r => r.1 = v ∧ Fr X σ r.2)) : ∃ τ, o = some (v, τ) ∧ Fr X σ τ := by
  obtain ⟨⟨a, b⟩, e, rfl, f⟩ := h
  exact ⟨b, e, f⟩
theorem Ok.m {X : Nat → Nat → Prop} (h : Ok o (fun r => r.1 = v ∧ Fr X σ r.2 ∧ MInv r.2 D')) : ∃ τ, o = some (v, τ) ∧ Fr X σ τ ∧ MInv τ D' := by
  obtain ⟨⟨a, b⟩, e, rfl, f⟩ := h
  exact ⟨b, e, f⟩
theorem Ok.cq (h : Ok o (CQ σ t D v)) (ht : CJ σ t D) (hi : TI σ t D) : ∃ τ, o = some (v, τ) ∧ Fr (fun a _ => a < 225) σ τ ∧ CJ τ t D ∧ TI τ t D := by
  obtain ⟨⟨a, b⟩, e, rfl, f, g⟩ := h
  have hT : t = 2 ∨ t = 42 := ht.r.tn
  exact ⟨b, e, f.mono (fun x y z => by unfold Xj Xl Xn Xf at z; omega), g, hi.fr ht.r.t.qp4 ht.r.t.qc7 f (fun x y z => by unfold Xj Xl Xn Xf; omega)⟩
theorem Ok.ck (h : Ok o (CK σ t D v)) (ht : CJ σ t D) (hi : TI σ t D) : ∃ τ, o = some (v, τ) ∧ Fr (fun a _ => a < 225) σ τ ∧ CJ τ t D ∧ TI τ t D := by
  obtain ⟨⟨a, b⟩, e, rfl, f, g⟩ := h
  have hT : t = 2 ∨ t = 42 := ht.r.tn
  exact ⟨b, e, f.mono (fun x y z => by unfold Xk Xj Xl Xn Xf at z; omega), g, hi.fr ht.r.t.qp4 ht.r.t.qc7 f (fun x y z => by unfold Xk Xj Xl Xn Xf; omega)⟩
theorem Ok.cs (h : Ok o (CS σ t D v)) (ht : CJ σ t D) (hi : TI σ t D) : ∃ τ, o = some (v, τ) ∧ Fr (fun a _ => a < 225) σ τ ∧ CJ τ t D ∧ TI τ t D := by
  obtain ⟨⟨a, b⟩, e, rfl, f, g⟩ := h
  exact ⟨b, e, f.mono (fun x y z => by unfold Xst at z; omega), g, hi.fr ht.r.t.qp4 ht.r.t.qc7 f (fun x y z => by unfold Xst; omega)⟩
theorem Ok.ct (h : Ok o (CT σ t D v)) (ht : CJ σ t D) : ∃ τ, o = some (v, τ) ∧ Fr (fun a _ => a < 225) σ τ ∧ CJ τ t D ∧ TI τ t D := by
  obtain ⟨⟨a, b⟩, e, rfl, f, g, k⟩ := h
  have hT : t = 2 ∨ t = 42 := ht.r.tn
  exact ⟨b, e, f.mono (fun x y z => by have := Xse_t ht.r.tn x y z; omega), g, k⟩
theorem Ok.cc (h : Ok o (CC σ t D' v)) (ht : CJ σ t D) (hi : TI σ t D) (e : eqT D' D) : ∃ τ, o = some (v, τ) ∧ Fr (fun a _ => a < 225) σ τ ∧ CJ τ t D' ∧ TI τ t D' := by
  obtain ⟨⟨a, b⟩, e1, rfl, f, g⟩ := h
  exact ⟨b, e1, f.mono (fun x y z => by unfold Xnn at z; omega), g, (hi.fr ht.r.t.qp4 ht.r.t.qc7 f (fun x y z => by unfold Xnn; omega)).cg e⟩
theorem eqT.rfl : eqT D D := fun _ _ _ => Eq.refl _
theorem eqT.trans {D'' : DD} (h1 : eqT D'' D') (h2 : eqT D' D) : eqT D'' D := fun a y1 y2 => (h1 a y1 y2).trans (h2 a y1 y2)
theorem CB_of (h : MInv σ D) : CB D := fun _ hm => cpv_b h hm
end
theorem P_fault (w : Int32) : Pr (f_X11_fault 0 w) (f_X12_fault 225 w) := Pr.q fun σ t D hM hC hI => ⟨_, σ, c_fault hC w, Fr.rfl, hC, hI, fun σ1 h1 => m_fault h1 w⟩
theorem P_named (w v : Int32) : Pr (f_X11_named 0 w v) (f_X12_named 225 w v) := Pr.q fun σ t D hM hC hI => ⟨_, σ, c_named hC w v, Fr.rfl, hC, hI, fun σ1 h1 => m_named h1 w v⟩
theorem P_street (w v : Int32) : Pr (f_X11_street 0 w v) (f_X12_street 225 w v) := Pr.q fun σ t D hM hC hI => ⟨_, σ, c_street hC w v, Fr.rfl, hC, hI, fun σ1 h1 => m_street h1 w v⟩
theorem P_pipe (w v : Int32) : Pr (f_X11_pipe 0 w v) (f_X12_pipe 225 w v) := Pr.q fun σ t D hM hC hI => ⟨_, σ, c_pipe hC w v, Fr.rfl, hC, hI, fun σ1 h1 => m_pipe h1 w v⟩
theorem P_count (w : Int32) : Pr (f_X11_count 0 w) (f_X12_count 225 w) := Pr.q fun σ t D hM hC hI => ⟨_, σ, c_count hC w, Fr.rfl, hC, hI, fun σ1 h1 => m_count h1 w⟩
theorem P_net (w v : Int32) : Pr (f_X11_net 0 w v) (f_X12_net 225 w v) := Pr.q fun σ t D hM hC hI => ⟨_, σ, c_net hC w v, Fr.rfl, hC, hI, fun σ1 h1 => m_net h1 w v⟩
theorem P_first (w : Int32) : Pr (f_X11_first 0 w) (f_X12_first 225 w) := Pr.q fun σ t D hM hC hI => ⟨_, σ, c_first hC w, Fr.rfl, hC, hI, fun σ1 h1 => (m_first h1 w).q⟩
theorem P_carries (w : Int32) : Pr (f_X11_carries 0 w) (f_X12_carries 225 w) := Pr.q fun σ t D hM hC hI => by
  obtain ⟨τ, e1, e2, e3, e4⟩ := (c_carries hC w).cq hC hI
  exact ⟨_, τ, e1, e2, e3, e4, fun σ1 h1 => (m_carries h1 w).q⟩
theorem P_cost (w v : Int32) : Pr (f_X11_cost 0 w v) (f_X12_cost 225 w v) := Pr.q fun σ t D hM hC hI => by
  obtain ⟨τ, e1, e2, e3, e4⟩ := (c_cost hC w v).cq hC hI
  exact ⟨_, τ, e1, e2, e3, e4, fun σ1 h1 => (m_cost h1 w v).q⟩
theorem P_all : Pr (f_X11_all 0) (f_X12_all 225) := Pr.q fun σ t D hM hC hI => by
  obtain ⟨τ, e1, e2, e3, e4⟩ := (c_all hC).cq hC hI
  exact ⟨_, τ, e1, e2, e3, e4, fun σ1 h1 => (m_all h1).q⟩
theorem P_broken (w : Int32) : Pr (f_X11_broken 0 w) (f_X12_broken 225 w) := Pr.q fun σ t D hM hC hI => by
  obtain ⟨τ, e1, e2, e3, e4⟩ := (c_broken hC w).cq hC hI
  exact ⟨_, τ, e1, e2, e3, e4, fun σ1 h1 => (m_broken h1 w).q⟩
theorem P_flow (w v u : Int32) : Pr (f_X11_flow 0 w v u) (f_X12_flow 225 w v u) := Pr.q fun σ t D hM hC hI => by
  obtain ⟨τ, e1, e2, e3, e4⟩ := (c_flow hC w v u).cq hC hI
  exact ⟨_, τ, e1, e2, e3, e4, fun σ1 h1 => (m_flow h1 w v u).q⟩
theorem P_flooded (w v u : Int32) : Pr (f_X11_flooded 0 w v u) (f_X12_flooded 225 w v u) := Pr.q fun σ t D hM hC hI => by
  obtain ⟨τ, e1, e2, e3, e4⟩ := (c_flooded hC w v u).cq hC hI
  exact ⟨_, τ, e1, e2, e3, e4, fun σ1 h1 => (m_flooded h1 w v u).q⟩
theorem P_floods (w : Int32) : Pr (f_X11_floods 0 w) (f_X12_floods 225 w) := Pr.q fun σ t D hM hC hI => by
  obtain ⟨τ, e1, e2, e3, e4⟩ := (c_floods hC w).cq hC hI
  exact ⟨_, τ, e1, e2, e3, e4, fun σ1 h1 => (m_floods h1 w).q⟩
theorem P_worst (w v : Int32) : Pr (f_X11_worst 0 w v) (f_X12_worst 225 w v) := Pr.q fun σ t D hM hC hI => by
  obtain ⟨τ, e1, e2, e3, e4⟩ := (c_worst hC w v).cq hC hI
  exact ⟨_, τ, e1, e2, e3, e4, fun σ1 h1 => (m_worst h1 w v).q⟩
theorem P_burst (w : Int32) : Pr (f_X11_burst 0 w) (f_X12_burst 225 w) := Pr.q fun σ t D hM hC hI => by
  obtain ⟨τ, e1, e2, e3, e4⟩ := (c_burst hC w).cq hC hI
  exact ⟨_, τ, e1, e2, e3, e4, fun σ1 h1 => (m_burst h1 w).q⟩
theorem P_bursts : Pr (f_X11_bursts 0) (f_X12_bursts 225) := Pr.q fun σ t D hM hC hI => by
  obtain ⟨τ, e1, e2, e3, e4⟩ := (c_bursts hC).cq hC hI
  exact ⟨_, τ, e1, e2, e3, e4, fun σ1 h1 => (m_bursts h1).q⟩
theorem P_judged (w : Int32) : Pr (f_X11_judged 0 w) (f_X12_judged 225 w) := Pr.q fun σ t D hM hC hI => by
  obtain ⟨τ, e1, e2, e3, e4⟩ := (c_judged hC w).ck hC hI
  exact ⟨_, τ, e1, e2, e3, e4, fun σ1 h1 => (m_judged h1 w).q⟩
theorem P_stages (w : Int32) : Pr (f_X11_stages 0 w) (f_X12_stages 225 w) := Pr.q fun σ t D hM hC hI => by
  obtain ⟨τ, e1, e2, e3, e4⟩ := (c_stages hC w).cs hC hI
  exact ⟨_, τ, e1, e2, e3, e4, fun σ1 h1 => (m_stages h1 w).q⟩
theorem P_stage (w v : Int32) : Pr (f_X11_stage 0 w v) (f_X12_stage 225 w v) := Pr.q fun σ t D hM hC hI => by
  obtain ⟨τ, e1, e2, e3, e4⟩ := (c_stage hC w v).cs hC hI
  exact ⟨_, τ, e1, e2, e3, e4, fun σ1 h1 => (m_stage h1 w v).q⟩
theorem P_cheapest (w : Int32) : Pr (f_X11_cheapest 0 w) (f_X12_cheapest 225 w) := Pr.q fun σ t D hM hC hI => by
  obtain ⟨τ, e1, e2, e3, e4⟩ := (c_cheapest hC (CB_of hM) hI w).ct hC
  exact ⟨_, τ, e1, e2, e3, e4, fun σ1 h1 => m_cheapest h1 w⟩
theorem P_tree (w : Int32) : Pr (f_X11_tree 0 w) (f_X12_tree 225 w) := Pr.q fun σ t D hM hC hI => by
  obtain ⟨τ, e1, e2, e3, e4⟩ := (c_tree hC (CB_of hM) hI w).ct hC
  exact ⟨_, τ, e1, e2, e3, e4, fun σ1 h1 => m_tree h1 w⟩
theorem P_without (w v : Int32) : Pr (f_X11_without 0 w v) (f_X12_without 225 w v) := Pr.q fun σ t D hM hC hI => by
  obtain ⟨τ, e1, e2, e3, e4⟩ := (c_without hC (CB_of hM) hI w v).ct hC
  exact ⟨_, τ, e1, e2, e3, e4, fun σ1 h1 => m_without h1 w v⟩
theorem eq_lay {D : DD} (c s p a b : Int32) : eqT (dLayQ D c s p a b) D := by
  unfold dLayQ
  by_cases z : layQ D c s p a b
  · rw [cif_t z]; exact (SameT.trans (dLay_t _ _ _ _ _) (dKeep_t D)).eq
  · rw [cif_f z]; exact eqT.rfl
theorem eq_take {D : DD} (c : Int32) : eqT (dTakeQ D c) D := by
  unfold dTakeQ
  split
  · exact (SameT.trans (dLay_t _ _ _ _ _) (dKeep_t D)).eq
  · exact eqT.rfl
theorem eq_undo {D : DD} : eqT (dUndoQ D) D := by
  unfold dUndoQ
  split
  · exact eqT.rfl
  · exact dUndo_t.eq
theorem eq_back {D : DD} : eqT (dBackQ D) D := by
  unfold dBackQ
  split
  · exact eqT.rfl
  · exact dBack_t.eq
theorem eq_laid {D : DD} (x : Int32) : eqT (dLdQ D x) D := by
  unfold dLdQ
  by_cases z : ldQ D x
  · rw [cif_t z]; exact (SameT.trans dLaid_t (dKeep_t D)).eq
  · rw [cif_f z]; exact eqT.rfl
theorem eq_feed {D : DD} (a b c d e : Int32) : eqT (dFeedQ D a b c d e) D := by
  unfold dFeedQ
  split
  · intro x y1 y2
    funext j
    unfold dFeed
    rw [if_neg (by omega), if_neg (by omega)]
  · exact eqT.rfl
theorem P_lay (c s p a b : Int32) : Pr (f_X11_lay 0 c s p a b) (f_X12_lay 225 c s p a b) := Pr.c fun σ t D hM hC hI => by
  obtain ⟨τ, e1, e2, e3, e4⟩ := (c_lay hC c s p a b hM.2.1).cc hC hI (eq_lay c s p a b)
  exact ⟨_, τ, t, _, e1, e2, e3, e4, fun σ1 h1 => (m_lay h1 c s p a b).m⟩
theorem P_take (c : Int32) : Pr (f_X11_take 0 c) (f_X12_take 225 c) := Pr.c fun σ t D hM hC hI => by
  obtain ⟨τ, e1, e2, e3, e4⟩ := (c_take hC c hM.2.1).cc hC hI (eq_take c)
  exact ⟨_, τ, t, _, e1, e2, e3, e4, fun σ1 h1 => (m_take h1 c).m⟩
theorem P_undo : Pr (f_X11_undo 0) (f_X12_undo 225) := Pr.c fun σ t D hM hC hI => by
  obtain ⟨τ, e1, e2, e3, e4⟩ := (c_undo hC hM.2.1).cc hC hI eq_undo
  exact ⟨_, τ, t, _, e1, e2, e3, e4, fun σ1 h1 => (m_undo h1).m⟩
theorem P_back : Pr (f_X11_back 0) (f_X12_back 225) := Pr.c fun σ t D hM hC hI => by
  obtain ⟨τ, e1, e2, e3, e4⟩ := (c_back hC hM.2.1).cc hC hI eq_back
  exact ⟨_, τ, t, _, e1, e2, e3, e4, fun σ1 h1 => (m_back h1).m⟩
theorem P_keep : Pr (f_X11_keep 0) (f_X12_keep 225) := Pr.c fun σ t D hM hC hI => by
  obtain ⟨τ, e1, e2, e3, e4⟩ := (c_keep hC hM.2.1).cc hC hI dImg_t.eq
  exact ⟨_, τ, t, _, e1, e2, e3, e4, fun σ1 h1 => (m_keep h1).m⟩
theorem P_feed (a b c d e : Int32) : Pr (f_X11_feed 0 a b c d e) (f_X12_feed 225 a b c d e) := Pr.c fun σ t D hM hC hI => by
  obtain ⟨⟨v, τ⟩, e1, rfl, e3, e4⟩ := c_feed hC a b c d e hM.2.1
  refine ⟨_, τ, t, _, e1, e3.mono (fun x y z => by unfold Xfd at z; omega), e4, ?_, fun σ1 h1 => (m_feed h1 a b c d e).m⟩
  exact (hI.fr hC.r.t.qp4 hC.r.t.qc7 e3 (fun x y z => by unfold Xfd; omega)).cg (eq_feed a b c d e)
theorem P_laid (x : Int32) : Pr (f_X11_laid 0 x) (f_X12_laid 225 x) := Pr.c fun σ t D hM hC hI => by
  obtain ⟨⟨v, τ⟩, e1, rfl, e3, e4, e5⟩ := c_laid hC (CB_of hM) hI hM.2.1 x
  refine ⟨_, τ, t, _, e1, e3.mono (fun x y z => ?_), e4, e5.cg (eq_laid x), fun σ1 h1 => (m_laid h1 x).m⟩
  rcases z with z | z
  · have hT : t = 2 ∨ t = 42 := hC.r.tn
    have := Xse_t hC.r.tn x y z; omega
  · unfold Xnn at z; omega
/-- the numbers of a town as a text begins, with what the rows hold -/
noncomputable def E0 (σ : ah_H) : DD := fun a j => if a = 227 then dfv j else if a = 242 ∨ a = 243 then nI 0 else ah_I σ a (hf a + j)
theorem E0_ok (σ : ah_H) : IsE0 (E0 σ) := ⟨fun j _ => if_pos rfl, fun q _ => ⟨rfl, rfl⟩⟩
theorem E0_r (σ : ah_H) : ∀ a j, 228 ≤ a → a ≤ 241 → j < hf a → E0 σ a j = ah_I σ a (hf a + j) := fun a j h1 h2 _ => by
  unfold E0; rw [if_neg (by omega), if_neg (by omega)]
theorem P_text (x : Int32) : Pr (f_X11_text 0 x) (f_X12_text 225 x) := by
  rintro σ ⟨t, D, hM, hC, hI⟩
  have hW := hM.w
  obtain ⟨q2, q7⟩ := hM.2.1.qtp
  have v2 : ah_I σ 225 2 = nI (tpd D) := (hM.at (Or.inl ⟨rfl, by omega⟩)).trans q2
  have v1 : ah_I σ 0 1 = nI (tpd D) := hC.2.2.2.2.1.1.trans q2
  by_cases z : x < nI 0 ∨ ¬ x ≤ nI (tpd D)
  · have g : Fr Xq σ (ah_wI σ 225 0 (nI 0)) := Fr.q0 (by omega)
    have g2 := g.mono Xq_225
    refine ⟨mI 2, σ, ah_wI σ 225 0 (nI 0), ?_, ?_, t, D, hM.fr g Xq_pm, hC.hi g2, hI.hi hM.t g2⟩
    · unfold f_X11_text f_X11_text_0
      rw [ck_0 hW]
      by_cases y : x < nI 0
      · rw [if_pos (show x < (0 : Int32) from y)]; rfl
      · rw [if_neg (show ¬ x < (0 : Int32) from y), gI_0 hW, bd_s, v1, if_neg (z.resolve_left y)]; rfl
    · unfold f_X12_text f_X12_text_0
      rw [ck_225 hW, show (0 : Int32) = nI 0 from l_0, pI_225 hW, bd_s]
      by_cases y : x < nI 0
      · rw [if_pos y]; rfl
      · rw [if_neg y, gI_225 (hW.wI _ _ _), bd_s, rI_ne (by omega), v2, if_neg (z.resolve_left y)]; rfl
  · have hx : ∃ k, k < tpd D + 1 ∧ x = nI k := nI_rng (by omega) (fun y => z (Or.inl y)) (fun y => z (Or.inr (fun y2 => by
      have y3 : nI (tpd D + 1) ≤ nI (tpd D) := Int32.le_trans y y2
      rw [le_nI (by omega) (by omega)] at y3
      omega)))
    obtain ⟨n, hn, rfl⟩ := hx
    have hn : n ≤ tpd D := by omega
    obtain ⟨ρ, r1, r2, r3, r4, r5⟩ := m_init hM hn (E0_ok σ) (E0_r σ)
    obtain ⟨σ1, c1, c2, c3⟩ := c_text hC hI hM.2.1 hn (E0_ok σ) r3
    have m1 := hM.lo c2
    obtain ⟨σ2, d1, d2, d3⟩ := m_text m1 hn (E0_ok σ) (fun a j h1 h2 h3 => by rw [E0_r σ a j h1 h2 h3, c2.I (by omega)])
    refine ⟨_, σ1, σ2, c1, d1, ?_⟩
    generalize lns (tks (tpT D) n) 701 0 (E0 σ) 0 [] 0 = r at *
    cases r with
    | inl x =>
      have c3 := c3
      have d3 : MInv σ2 (dTf D x.1 (tP (tks (tpT D) n x.2))) := d3
      exact ⟨t, _, d3, c3.1.hi d2, c3.2.hi d3.t d2⟩
    | inr q =>
      obtain ⟨E', td', o', ls⟩ := q
      obtain ⟨hp, d3⟩ := d3
      exact ⟨44 - t, _, d3, (c3 hp).1.hi d2, (c3 hp).2.hi d3.t d2⟩
