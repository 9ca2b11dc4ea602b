/-! LAYOUTS: a width and two depths for each corner -/
abbrev Lay : Type := Nat → Nat × Nat × Nat
def lyw (l : Lay) (c : Nat) : Nat := (l c).1
def lya (l : Lay) (c : Nat) : Nat := (l c).2.1
def lyb (l : Lay) (c : Nat) : Nat := (l c).2.2
def va (x y : Nat × Nat) : Nat × Nat := (x.1 + y.1, x.2 + y.2)
/-- what the pump of a corner costs -/
def PuR (p : DPr) (l : Lay) (c : Nat) (z : Nat × Nat) : Prop := ((∀ o, o < dpn p → dpx p o = some c → lyb l o ≤ lya l c) ∧ z = (0, 0)) ∨ ∃ q, q < dpn p ∧ dpx p q = some c ∧ lya l c < lyb l q ∧ lyb l q ≤ dph p ∧ (∀ o, o < dpn p → dpx p o = some c → lyb l o ≤ lyb l q) ∧ dpp p c (lyb l q - lya l c) = some z
/-- the branch of a corner, laid so, costs x -/
def Ly (p : DPr) (l : Lay) : Nat → Nat → Nat × Nat → Prop
  | 0, _, _ => False
  | d + 1, c, x => ∃ (X : Nat → Nat × Nat) (y z s : Nat × Nat), (∀ o, o < dpn p → dpx p o = some c → Ly p l d o (X o) ∧ lyw l o ≤ lyw l c) ∧ vsm (fun o => if dpx p o = some c then some (X o) else some (0, 0)) (dpn p) = some s ∧ dpo p c (lyw l c) (lya l c) (lyb l c) = some y ∧ lya l c ≤ dph p ∧ PuR p l c z ∧ x = va (va z s) y
section
variable {p : DPr}
theorem Ly_cg (hn : ∀ c k, c < dpn p → dpx p c = some k → k < dpn p) {l l' : Lay} : ∀ d c x, c < dpn p → (∀ o, o < dpn p → Rt (dpx p) c o → l o = l' o) → Ly p l d c x → Ly p l' d c x := by
  intro d
  induction d with
  | zero => intro c x _ _ h; exact h
  | succ d ih =>
    intro c x hc e h
    obtain ⟨X, y, z, s, h1, h2, h3, h4, h5, h6⟩ := h
    have ec : l c = l' c := e c hc ⟨0, rfl⟩
    have eo : ∀ o, o < dpn p → dpx p o = some c → l o = l' o := fun o ho hx => e o ho (Rt_up hx ⟨0, rfl⟩)
    have w1 : lyw l' c = lyw l c := by unfold lyw; rw [ec]
    have w2 : lya l' c = lya l c := by unfold lya; rw [ec]
    have w3 : lyb l' c = lyb l c := by unfold lyb; rw [ec]
    have b1 : ∀ o, o < dpn p → dpx p o = some c → lyb l' o = lyb l o := fun o ho hx => by unfold lyb; rw [eo o ho hx]
    refine ⟨X, y, z, s, fun o ho hx => ⟨ih o (X o) ho (fun x hx2 hr => e x hx2 (Rt_up hx hr)) (h1 o ho hx).1, ?_⟩, h2, by rw [w1, w2, w3]; exact h3, by rw [w2]; exact h4, ?_, h6⟩
    · rw [w1, show lyw l' o = lyw l o by unfold lyw; rw [eo o ho hx]]; exact (h1 o ho hx).2
    · rcases h5 with ⟨z1, z2⟩ | ⟨q, q1, q2, q3, q4, q5, q6⟩
      · exact Or.inl ⟨fun o ho hx => by rw [b1 o ho hx, w2]; exact z1 o ho hx, z2⟩
      · refine Or.inr ⟨q, q1, q2, by rw [b1 q q1 q2, w2]; exact q3, by rw [b1 q q1 q2]; exact q4, fun o ho hx => by rw [b1 o ho hx, b1 q q1 q2]; exact q5 o ho hx, by rw [b1 q q1 q2, w2]; exact q6⟩
theorem com_le {T : Tbl} {o v b w m : Nat} (hv : v ≤ w) (hb : b ≤ m) : vle (comT T o w m) (T o v b) := vle_tr (vmn_le (f := fun v => vmn (fun b => T o v b) (m + 1)) (w + 1) v (by omega)) (vmn_le (f := fun b => T o v b) (m + 1) b (by omega))
theorem cmj_le {T : Tbl} {o v w m : Nat} (hv : v ≤ w) : vle (cmjT T o w m) (T o v m) := vmn_le (f := fun v => T o v m) (w + 1) v (by omega)
/-- no table is above a layout -/
theorem Ly_le {l : Lay} : ∀ d c x, c < dpn p → Ly p l d c x → vle (lw p d c (lyw l c) (lyb l c)) (some x) := by
  intro d
  induction d with
  | zero => intro c x _ h; exact h.elim
  | succ d ih =>
    intro c x hc h
    obtain ⟨X, y, z, s, h1, h2, h3, h4, h5, h6⟩ := h
    have hk : ∀ o, o < dpn p → dpx p o = some c → ∀ m, lyb l o ≤ m → vle (comT (lw p d) o (lyw l c) m) (some (X o)) := fun o ho hx m hm => vle_tr (com_le (h1 o ho hx).2 hm) (ih o (X o) ho (h1 o ho hx).1)
    have key : vle (behT p (lw p d) c (lyw l c) (lya l c)) (some (va z s)) := by
      rcases h5 with ⟨z1, z2⟩ | ⟨q, q1, q2, q3, q4, q5, q6⟩
      · refine vle_tr (vmin_l _ _) ?_
        have : some (va z s) = vsm (fun o => if dpx p o = some c then some (X o) else some (0, 0)) (dpn p) := by
          rw [h2, z2]; unfold va; show some (0 + s.1, 0 + s.2) = _; rw [Nat.zero_add, Nat.zero_add]
        rw [this]
        refine vsm_le _ (fun o ho => ?_)
        by_cases q : dpx p o = some c
        · rw [if_pos q, if_pos q]; exact hk o ho q _ (z1 o ho q)
        · rw [if_neg q, if_neg q]; exact vle_rfl _
      · refine vle_tr (vmin_r _ _) (vle_tr (vmn_le (f := fun m => if lya l c < m then vadd (dpp p c (m - lya l c)) (chjT p (lw p d) c (lyw l c) m) else none) (dph p + 1) (lyb l q) (by omega)) ?_)
        rw [if_pos q3]
        have : some (va z s) = vadd (dpp p c (lyb l q - lya l c)) (vsm (fun o => if dpx p o = some c then some (X o) else some (0, 0)) (dpn p)) := by
          rw [h2, q6]; rfl
        rw [this]
        refine vadd_le (vle_rfl _) (vle_tr (vmn_le (f := fun u => if dpx p u = some c then ch1T p (lw p d) c (lyw l c) (lyb l q) u else none) (dpn p) q q1) ?_)
        rw [if_pos q2]
        refine vsm_le _ (fun o ho => ?_)
        by_cases qx : dpx p o = some c
        · rw [if_pos qx, if_pos qx]
          by_cases qo : o = q
          · rw [if_pos qo, qo]
            exact vle_tr (cmj_le (h1 q q1 q2).2) (ih q (X q) q1 (h1 q q1 q2).1)
          · rw [if_neg qo]; exact hk o ho qx _ (q5 o ho qx)
        · rw [if_neg qx, if_neg qx]; exact vle_rfl _
    refine vle_tr (vmn_le (f := fun a => vadd (behT p (lw p d) c (lyw l c) a) (dpo p c (lyw l c) a (lyb l c))) (dph p + 1) (lya l c) (by omega)) ?_
    rw [h6, h3]
    have : some (va (va z s) y) = vadd (some (va z s)) (some y) := rfl
    rw [this]
    exact vadd_le key (vle_rfl _)
theorem com_in {T : Tbl} {o w m : Nat} {x : Nat × Nat} (h : comT T o w m = some x) : ∃ v b, v ≤ w ∧ b ≤ m ∧ T o v b = some x := by
  obtain ⟨v, hv, h1⟩ := vmn_in _ _ h
  obtain ⟨b, hb, h2⟩ := vmn_in _ _ h1
  exact ⟨v, b, by omega, by omega, h2⟩
theorem cmj_in {T : Tbl} {o w m : Nat} {x : Nat × Nat} (h : cmjT T o w m = some x) : ∃ v, v ≤ w ∧ T o v m = some x := by
  obtain ⟨v, hv, h1⟩ := vmn_in _ _ h
  exact ⟨v, by omega, h1⟩
/-- of each that comes its own layout: one layout -/
noncomputable def glu (nx : Nat → Option Nat) (n c : Nat) (L : Nat → Lay) (e : Nat × Nat × Nat) : Lay := fun x => @dite _ (∃ o, o < n ∧ nx o = some c ∧ Rt nx o x) (Classical.propDecidable _) (fun h => L (Classical.choose h) x) (fun _ => e)
theorem glu_k {nx : Nat → Option Nat} {n : Nat} (hn : ∀ c k, c < n → nx c = some k → k < n) {d c : Nat} (hc : c < n) (hd : Hd nx n d c) {L : Nat → Lay} {e : Nat × Nat × Nat} {o x : Nat} (ho : o < n) (hx : nx o = some c) (hr : Rt nx o x) : glu nx n c L e x = L o x := by
  have hex : ∃ o, o < n ∧ nx o = some c ∧ Rt nx o x := ⟨o, ho, hx, hr⟩
  unfold glu
  rw [dif_pos hex]
  obtain ⟨h1, h2, h3⟩ := Classical.choose_spec hex
  rw [br_one hn hc hd h2 hx h3 hr]
theorem glu_c {nx : Nat → Option Nat} {n : Nat} (hn : ∀ c k, c < n → nx c = some k → k < n) {d c : Nat} (hc : c < n) (hd : Hd nx n d c) {L : Nat → Lay} {e : Nat × Nat × Nat} : glu nx n c L e c = e := by
  unfold glu
  rw [dif_neg]
  rintro ⟨o, h1, h2, h3⟩
  exact br_no hn hc hd h2 h3
/-- the sum of what comes, with a layout -/
theorem kids_at {c : Nat} {f : Nat → VV} {s : Nat × Nat} (hs : vsm (fun o => if dpx p o = some c then f o else some (0, 0)) (dpn p) = some s) : ∃ X : Nat → Nat × Nat, (∀ o, o < dpn p → dpx p o = some c → f o = some (X o)) ∧ vsm (fun o => if dpx p o = some c then some (X o) else some (0, 0)) (dpn p) = some s := by
  have h1 : ∀ o, o < dpn p → dpx p o = some c → f o = some ((f o).getD (0, 0)) := by
    intro o ho hx
    obtain ⟨y, hy⟩ := vsm_in _ _ hs o ho
    rw [if_pos hx] at hy
    rw [hy]; rfl
  refine ⟨fun o => (f o).getD (0, 0), h1, ?_⟩
  rw [← hs]
  refine vsm_cg _ (fun o ho => ?_)
  by_cases q : dpx p o = some c
  · rw [if_pos q, if_pos q]; exact (h1 o ho q).symm
  · rw [if_neg q, if_neg q]
/-- each value of a table is a layout's -/
theorem Ly_at (hn : ∀ c k, c < dpn p → dpx p c = some k → k < dpn p) : ∀ d c v b x, c < dpn p → Hd (dpx p) (dpn p) d c → lw p d c v b = some x → ∃ l, Ly p l d c x ∧ lyw l c = v ∧ lyb l c = b := by
  intro d
  induction d with
  | zero => intro c v b x _ h; exact h.elim
  | succ d ih =>
    intro c v b x hc hd hx
    obtain ⟨a, ha, hx⟩ := vmn_in _ _ hx
    obtain ⟨x1, y, hb, hy, rfl⟩ := vadd_some hx
    -- from what comes, a layout
    have mk : ∀ (f : Nat → VV) (R : Nat → Nat → Prop) (s : Nat × Nat), vsm (fun o => if dpx p o = some c then f o else some (0, 0)) (dpn p) = some s → (∀ o, o < dpn p → dpx p o = some c → ∀ y, f o = some y → ∃ v' b', v' ≤ v ∧ R o b' ∧ lw p d o v' b' = some y) → ∃ (l : Lay) (X : Nat → Nat × Nat), l c = (v, a, b) ∧ (∀ o, o < dpn p → dpx p o = some c → Ly p l d o (X o) ∧ lyw l o ≤ v ∧ R o (lyb l o)) ∧ vsm (fun o => if dpx p o = some c then some (X o) else some (0, 0)) (dpn p) = some s := by
      intro f R s hs hf
      obtain ⟨X, hX, hsX⟩ := kids_at hs
      have hL : ∀ o, ∃ l : Lay, o < dpn p → dpx p o = some c → Ly p l d o (X o) ∧ lyw l o ≤ v ∧ R o (lyb l o) := by
        intro o
        by_cases q : o < dpn p ∧ dpx p o = some c
        · obtain ⟨v', b', h1, h2, h3⟩ := hf o q.1 q.2 (X o) (hX o q.1 q.2)
          obtain ⟨l, l1, l2, l3⟩ := ih o v' b' (X o) q.1 (hd o q.1 q.2) h3
          exact ⟨l, fun _ _ => ⟨l1, by rw [l2]; exact h1, by rw [l3]; exact h2⟩⟩
        · exact ⟨fun _ => (0, 0, 0), fun h1 h2 => absurd ⟨h1, h2⟩ q⟩
      have hL' := fun o => Classical.choose_spec (hL o)
      refine ⟨glu (dpx p) (dpn p) c (fun o => Classical.choose (hL o)) (v, a, b), X, glu_c hn hc hd, fun o ho hx => ?_, hsX⟩
      obtain ⟨g1, g2, g3⟩ := hL' o ho hx
      have go : glu (dpx p) (dpn p) c (fun o => Classical.choose (hL o)) (v, a, b) o = Classical.choose (hL o) o := glu_k hn hc hd ho hx ⟨0, rfl⟩
      refine ⟨Ly_cg hn d o (X o) ho (fun x hx2 hr => (glu_k hn hc hd ho hx hr).symm) g1, ?_, ?_⟩
      · unfold lyw at *; rw [go]; exact g2
      · unfold lyb at *; rw [go]; exact g3
    rcases vmin_or (chsT p (lw p d) c v a) (vmn (fun m => if a < m then vadd (dpp p c (m - a)) (chjT p (lw p d) c v m) else none) (dph p + 1)) with q | q
    · have hb : chsT p (lw p d) c v a = some x1 := by rw [← q]; exact hb
      obtain ⟨l, X, e1, e2, e3⟩ := mk (fun o => comT (lw p d) o v a) (fun _ b' => b' ≤ a) x1 hb (fun o ho hx y hy => by
        obtain ⟨v', b', h1, h2, h3⟩ := com_in hy
        exact ⟨v', b', h1, h2, h3⟩)
      have w1 : lyw l c = v := by unfold lyw; rw [e1]
      have w2 : lya l c = a := by unfold lya; rw [e1]
      have w3 : lyb l c = b := by unfold lyb; rw [e1]
      refine ⟨l, ⟨X, y, (0, 0), x1, fun o ho hx => ⟨(e2 o ho hx).1, by rw [w1]; exact (e2 o ho hx).2.1⟩, e3, by rw [w1, w2, w3]; exact hy, by rw [w2]; omega, Or.inl ⟨fun o ho hx => by rw [w2]; exact (e2 o ho hx).2.2, rfl⟩, ?_⟩, w1, w3⟩
      unfold va
      show (x1.1 + y.1, x1.2 + y.2) = (0 + x1.1 + y.1, 0 + x1.2 + y.2)
      rw [Nat.zero_add, Nat.zero_add]
    · have hb : vmn (fun m => if a < m then vadd (dpp p c (m - a)) (chjT p (lw p d) c v m) else none) (dph p + 1) = some x1 := by rw [← q]; exact hb
      obtain ⟨m, hm, hb⟩ := vmn_in _ _ hb
      by_cases qm : a < m
      · rw [if_pos qm] at hb
        obtain ⟨z, s, hz, hs, rfl⟩ := vadd_some hb
        obtain ⟨u, hu, hs⟩ := vmn_in _ _ hs
        by_cases qu : dpx p u = some c
        · rw [if_pos qu] at hs
          obtain ⟨l, X, e1, e2, e3⟩ := mk (fun o => if o = u then cmjT (lw p d) o v m else comT (lw p d) o v m) (fun o b' => b' ≤ m ∧ (o = u → b' = m)) s hs (fun o ho hx y hy => by
            by_cases qo : o = u
            · have hy : (if o = u then cmjT (lw p d) o v m else comT (lw p d) o v m) = some y := hy
              rw [if_pos qo] at hy
              obtain ⟨v', h1, h3⟩ := cmj_in hy
              exact ⟨v', m, h1, ⟨Nat.le_refl _, fun _ => rfl⟩, h3⟩
            · have hy : (if o = u then cmjT (lw p d) o v m else comT (lw p d) o v m) = some y := hy
              rw [if_neg qo] at hy
              obtain ⟨v', b', h1, h2, h3⟩ := com_in hy
              exact ⟨v', b', h1, ⟨h2, fun z => absurd z qo⟩, h3⟩)
          have w1 : lyw l c = v := by unfold lyw; rw [e1]
          have w2 : lya l c = a := by unfold lya; rw [e1]
          have w3 : lyb l c = b := by unfold lyb; rw [e1]
          have wu : lyb l u = m := (e2 u hu qu).2.2.2 rfl
          refine ⟨l, ⟨X, y, z, s, fun o ho hx => ⟨(e2 o ho hx).1, by rw [w1]; exact (e2 o ho hx).2.1⟩, e3, by rw [w1, w2, w3]; exact hy, by rw [w2]; omega, Or.inr ⟨u, hu, qu, by rw [w2, wu]; exact qm, by rw [wu]; omega, fun o ho hx => by rw [wu]; exact (e2 o ho hx).2.2.1, by rw [wu, w2]; exact hz⟩, rfl⟩, w1, w3⟩
        · rw [if_neg qu] at hs; cases hs
      · rw [if_neg qm] at hb; cases hb
end
