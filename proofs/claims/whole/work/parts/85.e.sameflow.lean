/-! BRANCHES: the same branch has the same flows -/
/-- c has the same branch under both -/
def SmB (D : DD) (st st' : Nat → Option Nat) (c : Nat) : Prop := ∀ x, x < nC D → (Rt (nx D st) c x ↔ Rt (nx D st') c x) ∧ (Rt (nx D st) c x → st' x = st x)
section
variable {D : DD} {st st' : Nat → Option Nat} {c : Nat}
theorem SmB.symm (h : SmB D st st' c) : SmB D st' st c := fun x hx => ⟨(h x hx).1.symm, fun z => ((h x hx).2 ((h x hx).1.mpr z)).symm⟩
theorem Rt_up {nx : Nat → Option Nat} {o x : Nat} (h : nx o = some c) (hr : Rt nx o x) : Rt nx c x := by
  obtain ⟨j, hj⟩ := hr
  exact ⟨j + 1, by rw [itn_s, hj]; exact h⟩
theorem SmB.kid (h : SmB D st st' c) {o : Nat} (ho : o < nC D) : nx D st o = some c ↔ nx D st' o = some c := by
  have key : ∀ {st st' : Nat → Option Nat}, SmB D st st' c → nx D st o = some c → nx D st' o = some c := by
    intro st st' h z
    have h1 : Rt (nx D st) c o := Rt_up z ⟨0, rfl⟩
    have h2 := (h o ho).2 h1
    unfold nx at z ⊢
    rw [h2]; exact z
  exact ⟨key h, key h.symm⟩
/-- a path in the branch is one under both -/
theorem SmB.path (h : SmB D st st' c) (hn : ∀ c k, c < nC D → nx D st c = some k → k < nC D) {o : Nat} (hoc : nx D st o = some c) : ∀ j x, x < nC D → itn (nx D st) j x = some o → itn (nx D st') j x = some o := by
  intro j
  induction j with
  | zero => intro x _ hx; exact hx
  | succ j ih =>
    intro x hx hi
    have hr : Rt (nx D st) c x := Rt_up hoc ⟨j + 1, hi⟩
    have e := (h x hx).2 hr
    have hi : (nx D st x).bind (itn (nx D st) j) = some o := hi
    show (nx D st' x).bind (itn (nx D st') j) = some o
    have e2 : nx D st' x = nx D st x := by unfold nx; rw [e]
    rw [e2]
    cases z : nx D st x with
    | none => rw [z] at hi; cases hi
    | some y => rw [z] at hi; exact ih y (hn x y hx z) hi
theorem SmB.down (h : SmB D st st' c) (hn : ∀ c k, c < nC D → nx D st c = some k → k < nC D) (hn' : ∀ c k, c < nC D → nx D st' c = some k → k < nC D) {o : Nat} (ho : o < nC D) (hoc : nx D st o = some c) : SmB D st st' o := by
  intro x hx
  refine ⟨⟨fun ⟨j, hj⟩ => ⟨j, h.path hn hoc j x hx hj⟩, fun ⟨j, hj⟩ => ⟨j, h.symm.path hn' ((h.kid ho).mp hoc) j x hx hj⟩⟩, fun z => (h x hx).2 (Rt_up hoc z)⟩
theorem inf_smb (hn : ∀ c k, c < nC D → nx D st c = some k → k < nC D) (hn' : ∀ c k, c < nC D → nx D st' c = some k → k < nC D) {li ra : Nat → Nat → Nat} : ∀ d c t, c < nC D → SmB D st st' c → inf (nx D st) (nC D) (hr D st) li ra d c t = inf (nx D st') (nC D) (hr D st') li ra d c t := by
  intro d
  induction d with
  | zero => intro c t _ _; rfl
  | succ d ih =>
    intro c t hc h
    show ra c t + sm (fun o => if nx D st o = some c ∧ hr D st o ≤ t then li o (inf (nx D st) (nC D) (hr D st) li ra d o (t - hr D st o)) else 0) (nC D) = ra c t + sm (fun o => if nx D st' o = some c ∧ hr D st' o ≤ t then li o (inf (nx D st') (nC D) (hr D st') li ra d o (t - hr D st' o)) else 0) (nC D)
    congr 1
    refine sm_eq (fun o ho => ?_)
    have hk := h.kid ho
    by_cases q : nx D st o = some c
    · have e : st' o = st o := (h o ho).2 (Rt_up q ⟨0, rfl⟩)
      have eh : hr D st' o = hr D st o := by unfold hr; rw [e]
      rw [eh, ih o _ ho (h.down hn hn' ho q)]
      by_cases q2 : hr D st o ≤ t
      · rw [if_pos ⟨q, q2⟩, if_pos ⟨hk.mp q, q2⟩]
      · rw [if_neg (fun z => q2 z.2), if_neg (fun z => q2 z.2)]
    · rw [if_neg (fun z => q z.1), if_neg (fun z => q (hk.mpr z.1))]
end
