/-! LAYOUTS of a whole tree -/
def LyT (D : DD) (p : DPr) (l : Lay) (x : Nat × Nat) : Prop := ∃ X : Nat → Nat × Nat, (∀ o, o < dpn p → dpx p o = some (riv D) → Ly p l (nC D) o (X o) ∧ lyw l o ≤ 3 ∧ lyb l o ≤ min (mc D) (hgt D (riv D) - lev D)) ∧ vsm (fun o => if dpx p o = some (riv D) then some (X o) else some (0, 0)) (dpn p) = some x ∧ (nC D ≠ 1 → ¬ hgt D (riv D) < lev D)
noncomputable def topF (D : DD) (st : Nat → Option Nat) (F1 F2 F3 : Nat → Int32) : VV := topT D (dpD D st F1 F2 F3) (Tw (dpD D st F1 F2 F3) D)
def gL (D : DD) (l : Lay) (c : Nat) : Nat := if c = riv D then 0 else kyD D c (lyw l c) (lya l c) (lyb l c)
def cpt (F1 F2 F3 : Nat → Int32) (l : Lay) (o : Nat) : Prop := fx (F1 o) (lyw l o) ∧ fx (F2 o) (lya l o) ∧ fx (F3 o) (lyb l o)
section
variable {D : DD} {m : Nat} {st : Nat → Option Nat} {F1 F2 F3 G1 G2 G3 : Nat → Int32} {l : Lay}
theorem own_in {Q : Nat → Int} {ky : Nat → Nat → Nat → Nat → Nat} {c w a b : Nat} {y : Nat × Nat} (h : own D st Q F1 F2 F3 ky c w a b = some y) : w < nP D ∧ a ≤ mc D ∧ b ≤ mc D ∧ fx (F1 c) w ∧ fx (F2 c) a ∧ fx (F3 c) b ∧ y.2 = ky c w a b := by
  unfold own at h
  cases e : st c with
  | none => rw [e] at h; cases h
  | some s =>
    rw [e] at h
    have h : cif (w < nP D ∧ lc D ≤ a ∧ a ≤ mc D ∧ lc D ≤ b ∧ b ≤ mc D ∧ fx (F1 c) w ∧ fx (F2 c) a ∧ fx (F3 c) b ∧ (len D s * lf D : Int) ≤ fallv D c s a b ∧ fallv D c s a b ≤ (len D s * mf D : Int) ∧ Q c ≤ carv D (wid D w) ((fallv D c s a b).tdiv (len D s))) (some ((costv D c w s a b).toNat, ky c w a b)) none = some y := h
    by_cases q : w < nP D ∧ lc D ≤ a ∧ a ≤ mc D ∧ lc D ≤ b ∧ b ≤ mc D ∧ fx (F1 c) w ∧ fx (F2 c) a ∧ fx (F3 c) b ∧ (len D s * lf D : Int) ≤ fallv D c s a b ∧ fallv D c s a b ≤ (len D s * mf D : Int) ∧ Q c ≤ carv D (wid D w) ((fallv D c s a b).tdiv (len D s))
    · rw [cif_t q] at h
      cases h
      exact ⟨q.1, q.2.2.1, q.2.2.2.2.1, q.2.2.2.2.2.1, q.2.2.2.2.2.2.1, q.2.2.2.2.2.2.2.1, rfl⟩
    · rw [cif_f q] at h; cases h
theorem own_fx {Q : Nat → Int} {ky : Nat → Nat → Nat → Nat → Nat} {c w a b : Nat} {y : Nat × Nat} (h : own D st Q F1 F2 F3 ky c w a b = some y) (g1 : fx (G1 c) w) (g2 : fx (G2 c) a) (g3 : fx (G3 c) b) : own D st Q G1 G2 G3 ky c w a b = some y := by
  unfold own at h ⊢
  cases e : st c with
  | none => rw [e] at h; cases h
  | some s =>
    rw [e] at h
    have h : cif (w < nP D ∧ lc D ≤ a ∧ a ≤ mc D ∧ lc D ≤ b ∧ b ≤ mc D ∧ fx (F1 c) w ∧ fx (F2 c) a ∧ fx (F3 c) b ∧ (len D s * lf D : Int) ≤ fallv D c s a b ∧ fallv D c s a b ≤ (len D s * mf D : Int) ∧ Q c ≤ carv D (wid D w) ((fallv D c s a b).tdiv (len D s))) (some ((costv D c w s a b).toNat, ky c w a b)) none = some y := h
    by_cases q : w < nP D ∧ lc D ≤ a ∧ a ≤ mc D ∧ lc D ≤ b ∧ b ≤ mc D ∧ fx (F1 c) w ∧ fx (F2 c) a ∧ fx (F3 c) b ∧ (len D s * lf D : Int) ≤ fallv D c s a b ∧ fallv D c s a b ≤ (len D s * mf D : Int) ∧ Q c ≤ carv D (wid D w) ((fallv D c s a b).tdiv (len D s))
    · rw [cif_t q] at h
      rw [← h]
      exact cif_t ⟨q.1, q.2.1, q.2.2.1, q.2.2.2.1, q.2.2.2.2.1, g1, g2, g3, q.2.2.2.2.2.2.2.2⟩ _ _
    · rw [cif_f q] at h; cases h
theorem Ly_in (hn : ∀ c k, c < nC D → nx D st c = some k → k < nC D) : ∀ d c x, c < nC D → Ly (dpD D st F1 F2 F3) l d c x → ∀ o, o < nC D → Rt (nx D st) c o → lyw l o < nP D ∧ lya l o ≤ mc D ∧ lyb l o ≤ mc D ∧ cpt F1 F2 F3 l o := by
  intro d
  induction d with
  | zero => intro c x _ h; exact h.elim
  | succ d ih =>
    intro c x hc h o ho hr
    obtain ⟨X, y, z, s, h1, h2, h3, h4, h5, h6⟩ := h
    rcases (br_in hn ho).mp hr with rfl | ⟨u, u1, u2, u3⟩
    · obtain ⟨w1, w2, w3, w4, w5, w6, -⟩ := own_in h3
      exact ⟨w1, w2, w3, w4, w5, w6⟩
    · exact ih u (X u) u1 (h1 u u1 u2).1 o ho u3
theorem Ly_fx (hn : ∀ c k, c < nC D → nx D st c = some k → k < nC D) : ∀ d c x, c < nC D → (∀ o, o < nC D → Rt (nx D st) c o → cpt G1 G2 G3 l o) → Ly (dpD D st F1 F2 F3) l d c x → Ly (dpD D st G1 G2 G3) l d c x := by
  intro d
  induction d with
  | zero => intro c x _ _ h; exact h.elim
  | succ d ih =>
    intro c x hc hg h
    obtain ⟨X, y, z, s, h1, h2, h3, h4, h5, h6⟩ := h
    obtain ⟨g1, g2, g3⟩ := hg c hc ⟨0, rfl⟩
    exact ⟨X, y, z, s, fun o ho hx => ⟨ih o (X o) ho (fun u hu hr => hg u hu (Rt_up hx hr)) (h1 o ho hx).1, (h1 o ho hx).2⟩, h2, own_fx h3 g1 g2 g3, h4, h5, h6⟩
theorem vsm_key {X : Nat → Nat × Nat} {P : Nat → Option Nat} {c : Nat} : ∀ n s, vsm (fun o => if P o = some c then some (X o) else some (0, 0)) n = some s → s.2 = sm (fun o => if P o = some c then (X o).2 else 0) n := by
  intro n
  induction n with
  | zero => intro s h; cases h; rfl
  | succ n ih =>
    intro s h
    obtain ⟨a, b, e1, e2, e3⟩ := vadd_some (show vadd (vsm (fun o => if P o = some c then some (X o) else some (0, 0)) n) (if P n = some c then some (X n) else some (0, 0)) = some s from h)
    rw [e3]
    show a.2 + b.2 = sm _ n + (if P n = some c then (X n).2 else 0)
    rw [ih a e1]
    congr 1
    by_cases q : P n = some c
    · rw [if_pos q] at e2 ⊢; cases e2; rfl
    · rw [if_neg q] at e2 ⊢; cases e2; rfl
theorem Ly_key (ht : MT D) (h : OrP D m (riv D) st) : ∀ d c x, c < nC D → c ≠ riv D → Ly (dpD D st F1 F2 F3) l d c x → x.2 = sub (nx D st) (nC D) (gL D l) c := by
  have hn := or_nxl ht h
  intro d
  induction d with
  | zero => intro c x _ _ h; exact h.elim
  | succ d ih =>
    intro c x hc hcr hl
    obtain ⟨X, y, z, s, h1, h2, h3, h4, h5, h6⟩ := hl
    rw [sub_s hn (gL D l) hc (or_hd ht h hc), h6]
    obtain ⟨-, -, -, -, -, -, hy⟩ := own_in h3
    have hz : z.2 = 0 := by
      rcases h5 with ⟨-, z2⟩ | ⟨q, q1, q2, q3, q4, q5, q6⟩
      · rw [z2]
      · have := pmv_key (D := D) (c := c) (Q := gq D st) (k := lyb l q - lya l c) z q6
        omega
    have hs := vsm_key _ _ h2
    show z.2 + s.2 + y.2 = _
    rw [hz, hs, hy, Nat.zero_add]
    have e : gL D l c = kyD D c (lyw l c) (lya l c) (lyb l c) := if_neg hcr
    rw [e]
    congr 1
    refine sm_eq (fun o ho => ?_)
    by_cases q : nx D st o = some c
    · have q' : dpx (dpD D st F1 F2 F3) o = some c := q
      rw [if_pos q, if_pos q']
      refine ih o (X o) ho (fun z => ?_) (h1 o ho q').1
      rw [z, or_nn h] at q; cases q
    · have q' : ¬ dpx (dpD D st F1 F2 F3) o = some c := q
      rw [if_neg q, if_neg q']
theorem LyT_key (ht : MT D) (h : OrP D m (riv D) st) {x : Nat × Nat} (hl : LyT D (dpD D st F1 F2 F3) l x) : x.2 = sm (gL D l) (nC D) := by
  obtain ⟨X, h1, h2, -⟩ := hl
  have hn := or_nxl ht h
  have hr := h.2.2.1
  have e := sub_s hn (gL D l) hr (or_hd ht h hr)
  have e0 : gL D l (riv D) = 0 := if_pos rfl
  have e1 : sub (nx D st) (nC D) (gL D l) (riv D) = sm (gL D l) (nC D) := sm_eq (fun o ho => cif_t (h.2.2.2 o ho) _ _)
  rw [← e1, e, e0, Nat.add_zero]
  have hs := vsm_key _ _ h2
  rw [hs]
  refine sm_eq (fun o ho => ?_)
  by_cases q : nx D st o = some (riv D)
  · have q' : dpx (dpD D st F1 F2 F3) o = some (riv D) := q
    rw [if_pos q, if_pos q']
    refine Ly_key ht h (nC D) o (X o) ho (fun z => ?_) (h1 o ho q').1
    rw [z, or_nn h] at q; cases q
  · have q' : ¬ dpx (dpD D st F1 F2 F3) o = some (riv D) := q
    rw [if_neg q, if_neg q']
/-- in a tree each corner but the river lies in a branch that comes to it -/
theorem or_br (ht : MT D) (h : OrP D m (riv D) st) {c : Nat} (hc : c < nC D) (hcr : c ≠ riv D) : ∃ o, o < nC D ∧ nx D st o = some (riv D) ∧ Rt (nx D st) o c := ((br_in (or_nxl ht h) hc).mp (h.2.2.2 c hc)).resolve_left hcr
theorem LyT_in (ht : MT D) (h : OrP D m (riv D) st) {x : Nat × Nat} (hl : LyT D (dpD D st F1 F2 F3) l x) {c : Nat} (hc : c < nC D) (hcr : c ≠ riv D) : lyw l c < nP D ∧ lya l c ≤ mc D ∧ lyb l c ≤ mc D ∧ cpt F1 F2 F3 l c := by
  obtain ⟨X, h1, h2, -⟩ := hl
  obtain ⟨o, o1, o2, o3⟩ := or_br ht h hc hcr
  exact Ly_in (or_nxl ht h) (nC D) o (X o) o1 (h1 o o1 o2).1 c hc o3
theorem LyT_fx (ht : MT D) (h : OrP D m (riv D) st) {x : Nat × Nat} (hl : LyT D (dpD D st F1 F2 F3) l x) (hg : ∀ c, c < nC D → c ≠ riv D → cpt G1 G2 G3 l c) : LyT D (dpD D st G1 G2 G3) l x := by
  obtain ⟨X, h1, h2, h3⟩ := hl
  have hn := or_nxl ht h
  refine ⟨X, fun o ho hx => ⟨Ly_fx hn (nC D) o (X o) ho (fun u hu hr => hg u hu (fun z => ?_)) (h1 o ho hx).1, (h1 o ho hx).2⟩, h2, h3⟩
  have hx : nx D st o = some (riv D) := hx
  rw [z] at hr
  obtain ⟨j, hj⟩ := hr
  cases j with
  | zero => rw [← Option.some.inj hj, or_nn h] at hx; cases hx
  | succ j =>
    have hj : (nx D st (riv D)).bind _ = some o := hj
    rw [or_nn h] at hj; cases hj
theorem LyT_le (ht : MT D) (h : OrP D m (riv D) st) {x : Nat × Nat} (hl : LyT D (dpD D st F1 F2 F3) l x) : vle (topF D st F1 F2 F3) (some x) := by
  obtain ⟨X, h1, h2, h3⟩ := hl
  unfold topF topT
  by_cases q : nC D = 1
  · rw [if_pos q]
    have : x = (0, 0) := by
      have e : vsm (fun o => if dpx (dpD D st F1 F2 F3) o = some (riv D) then some (X o) else some (0, 0)) 1 = some x := by rw [← q]; exact h2
      have hr := h.2.2.1
      have e0 : ¬ dpx (dpD D st F1 F2 F3) 0 = some (riv D) := by
        show ¬ nx D st 0 = some (riv D)
        rw [show 0 = riv D by omega, or_nn h]; intro z; cases z
      have e : vadd (some (0, 0)) (if dpx (dpD D st F1 F2 F3) 0 = some (riv D) then some (X 0) else some (0, 0)) = some x := e
      rw [if_neg e0] at e
      cases e; rfl
    rw [this]; exact vle_rfl _
  rw [if_neg q, if_neg (h3 q), ← h2]
  refine vsm_le _ (fun o ho => ?_)
  by_cases qx : dpx (dpD D st F1 F2 F3) o = some (riv D)
  · rw [if_pos qx, if_pos qx]
    obtain ⟨l1, l2, l3⟩ := h1 o ho qx
    exact vle_tr (com_le l2 l3) (Ly_le (nC D) o (X o) ho l1)
  · rw [if_neg qx, if_neg qx]; exact vle_rfl _
theorem LyT_at (ht : MT D) (h : OrP D m (riv D) st) {x : Nat × Nat} (hx : topF D st F1 F2 F3 = some x) : ∃ l, LyT D (dpD D st F1 F2 F3) l x := by
  have hn := or_nxl ht h
  have hr := h.2.2.1
  unfold topF topT at hx
  by_cases q : nC D = 1
  · rw [if_pos q] at hx
    cases hx
    refine ⟨fun _ => (0, 0, 0), fun _ => (0, 0), fun o ho hox => ?_, ?_, fun z => absurd q z⟩
    · have hox : nx D st o = some (riv D) := hox
      have ho : o < nC D := ho
      rw [show o = riv D by omega, or_nn h] at hox; cases hox
    · have : ∀ n, vsm (fun o => if dpx (dpD D st F1 F2 F3) o = some (riv D) then some ((fun _ => (0, 0)) o) else some (0, 0)) n = some (0, 0) := by
        intro n
        induction n with
        | zero => rfl
        | succ n ih =>
          show vadd (vsm _ n) (if dpx (dpD D st F1 F2 F3) n = some (riv D) then some (0, 0) else some (0, 0)) = _
          rw [ih]
          by_cases z : dpx (dpD D st F1 F2 F3) n = some (riv D)
          · rw [if_pos z]; rfl
          · rw [if_neg z]; rfl
      exact this _
  rw [if_neg q] at hx
  by_cases q2 : hgt D (riv D) < lev D
  · rw [if_pos q2] at hx; cases hx
  rw [if_neg q2] at hx
  obtain ⟨X, hX, hsX⟩ := kids_at (p := dpD D st F1 F2 F3) (c := riv D) hx
  have hL : ∀ o, ∃ l : Lay, o < nC D → nx D st o = some (riv D) → Ly (dpD D st F1 F2 F3) l (nC D) o (X o) ∧ lyw l o ≤ 3 ∧ lyb l o ≤ min (mc D) (hgt D (riv D) - lev D) := by
    intro o
    by_cases z : o < nC D ∧ nx D st o = some (riv D)
    · obtain ⟨v', b', h1, h2, h3⟩ := com_in (hX o z.1 z.2)
      obtain ⟨l, l1, l2, l3⟩ := Ly_at (p := dpD D st F1 F2 F3) hn (nC D) o v' b' (X o) z.1 (or_hd ht h z.1) h3
      exact ⟨l, fun _ _ => ⟨l1, by rw [l2]; exact h1, by rw [l3]; exact h2⟩⟩
    · exact ⟨fun _ => (0, 0, 0), fun h1 h2 => absurd ⟨h1, h2⟩ z⟩
  have hL' := fun o => Classical.choose_spec (hL o)
  have hd := or_hd ht h hr
  refine ⟨glu (nx D st) (nC D) (riv D) (fun o => Classical.choose (hL o)) (0, 0, 0), X, fun o ho hox => ?_, hsX, fun _ => q2⟩
  obtain ⟨g1, g2, g3⟩ := hL' o ho hox
  have go : glu (nx D st) (nC D) (riv D) (fun o => Classical.choose (hL o)) (0, 0, 0) o = Classical.choose (hL o) o := glu_k hn hr hd ho hox ⟨0, rfl⟩
  refine ⟨Ly_cg (p := dpD D st F1 F2 F3) hn (nC D) o (X o) ho (fun x hx2 hrx => (glu_k hn hr hd ho hox hrx).symm) g1, ?_, ?_⟩
  · unfold lyw at *; rw [go]; exact g2
  · unfold lyb at *; rw [go]; exact g3
end
