/-! BRANCHES: the deepest of them, counted in their order -/
theorem vmin_c (x y : VV) : vmin x y = vmin y x := by
  cases x with
  | none => rw [vmin_n]; rfl
  | some a =>
    cases y with
    | none => rfl
    | some b =>
      show (if vlt b a then some b else some a) = (if vlt a b then some a else some b)
      by_cases q1 : vlt b a
      · rw [if_pos q1, if_neg (fun z => vlt_irr _ (vlt_tr z q1))]
      · by_cases q2 : vlt a b
        · rw [if_neg q1, if_pos q2]
        · rw [if_neg q1, if_neg q2, vle_as q1 q2]
theorem vdist (x y z : VV) : vadd x (vmin y z) = vmin (vadd x y) (vadd x z) := by
  cases x with
  | none => rfl
  | some a =>
    cases y with
    | none => rfl
    | some b =>
      cases z with
      | none => rw [vmin_n, vadd_n, vmin_n]
      | some c =>
        show vadd (some a) (if vlt c b then some c else some b) = (if vlt (a.1 + c.1, a.2 + c.2) (a.1 + b.1, a.2 + b.2) then some (a.1 + c.1, a.2 + c.2) else some (a.1 + b.1, a.2 + b.2))
        by_cases q : vlt c b
        · rw [if_pos q, if_pos (by unfold vlt at *; show _ ∨ _; dsimp only; omega)]; rfl
        · rw [if_neg q, if_neg (by unfold vlt at *; dsimp only; omega)]; rfl
theorem vdist' (x y z : VV) : vadd (vmin x y) z = vmin (vadd x z) (vadd y z) := by
  rw [vadd_c, vdist, vadd_c z x, vadd_c z y]
theorem vmin_ab {x y : VV} (h : vle x y) : vmin x y = x := by
  cases x with
  | none =>
    cases y with
    | none => rfl
    | some b => obtain ⟨a, h1, -⟩ := h b rfl; cases h1
  | some a =>
    cases y with
    | none => rfl
    | some b =>
      obtain ⟨a', h1, h2⟩ := h b rfl
      cases h1
      show (if vlt b a then some b else some a) = some a
      rw [if_neg h2]
theorem vmin_id (x : VV) : vmin x x = x := vmin_ab (vle_rfl x)
section
variable (nx : Nat → Option Nat) (c : Nat) (co ab ju : Nat → VV)
/-- all of them; all of them above; the deepest so deep -/
def dS : Nat → VV := vsm (fun o => if nx o = some c then co o else some (0, 0))
def dA : Nat → VV := vsm (fun o => if nx o = some c then ab o else some (0, 0))
def dD : Nat → VV
  | 0 => none
  | k + 1 => if nx k = some c then vmin (vadd (dA nx c ab k) (ju k)) (vadd (dD k) (co k)) else dD k
def d1 (q : Nat) : Nat → VV := vsm (fun o => if nx o = some c then (if o = q then ju o else co o) else some (0, 0))
def dJ (k : Nat) : VV := vmn (fun q => if nx q = some c then d1 nx c co ju q k else none) k
theorem d1_out {q k : Nat} (h : k ≤ q) : d1 nx c co ju q k = dS nx c co k := by
  refine vsm_cg k (fun i hi => ?_)
  by_cases z : nx i = some c
  · rw [if_pos z, if_pos z, if_neg (by omega)]
  · rw [if_neg z, if_neg z]
theorem vmn_add {f : Nat → VV} (x : VV) : ∀ k, vmn (fun q => vadd (f q) x) k = vadd (vmn f k) x := by
  intro k
  induction k with
  | zero => rfl
  | succ k ih =>
    show vmin (vmn (fun q => vadd (f q) x) k) (vadd (f k) x) = vadd (vmin (vmn f k) (f k)) x
    rw [ih, vdist']
theorem dJ_s (k : Nat) : dJ nx c co ju (k + 1) = if nx k = some c then vmin (vadd (dJ nx c co ju k) (co k)) (vadd (dS nx c co k) (ju k)) else dJ nx c co ju k := by
  unfold dJ
  by_cases z : nx k = some c
  · rw [if_pos z]
    show vmin (vmn (fun q => if nx q = some c then d1 nx c co ju q (k + 1) else none) k) (if nx k = some c then d1 nx c co ju k (k + 1) else none) = _
    rw [if_pos z, ← vmn_add]
    congr 1
    · refine vmn_cg k (fun q hq => ?_)
      by_cases w : nx q = some c
      · rw [if_pos w, if_pos w]
        show vadd (d1 nx c co ju q k) (if nx k = some c then (if k = q then ju k else co k) else some (0, 0)) = _
        rw [if_pos z, if_neg (by omega)]
      · rw [if_neg w, if_neg w]; rfl
    · show vadd (d1 nx c co ju k k) (if nx k = some c then (if k = k then ju k else co k) else some (0, 0)) = _
      rw [if_pos z, if_pos rfl, d1_out nx c co ju (Nat.le_refl k)]
  · rw [if_neg z]
    show vmin (vmn (fun q => if nx q = some c then d1 nx c co ju q (k + 1) else none) k) (if nx k = some c then d1 nx c co ju k (k + 1) else none) = _
    rw [if_neg z, vmin_n]
    refine vmn_cg k (fun q hq => ?_)
    by_cases w : nx q = some c
    · rw [if_pos w, if_pos w]
      show vadd (d1 nx c co ju q k) (if nx k = some c then (if k = q then ju k else co k) else some (0, 0)) = _
      rw [if_neg z, vadd_z]
    · rw [if_neg w, if_neg w]
/-- both ways count the same -/
theorem dD_J (h : ∀ o, nx o = some c → co o = vmin (ab o) (ju o)) : ∀ k, dD nx c co ab ju k = dJ nx c co ju k ∧ dS nx c co k = vmin (dA nx c ab k) (dD nx c co ab ju k) := by
  intro k
  induction k with
  | zero => exact ⟨rfl, rfl⟩
  | succ k ih =>
    obtain ⟨h1, h2⟩ := ih
    by_cases z : nx k = some c
    · have eD : dD nx c co ab ju (k + 1) = vmin (vadd (dA nx c ab k) (ju k)) (vadd (dD nx c co ab ju k) (co k)) := by
        show (if nx k = some c then _ else _) = _
        rw [if_pos z]
      have eS : dS nx c co (k + 1) = vadd (dS nx c co k) (co k) := by
        show vadd (dS nx c co k) (if nx k = some c then co k else some (0, 0)) = _
        rw [if_pos z]
      have eA : dA nx c ab (k + 1) = vadd (dA nx c ab k) (ab k) := by
        show vadd (dA nx c ab k) (if nx k = some c then ab k else some (0, 0)) = _
        rw [if_pos z]
      have hle : vle (vadd (dD nx c co ab ju k) (co k)) (vadd (dD nx c co ab ju k) (ju k)) := by
        refine vadd_le (vle_rfl _) ?_
        rw [h k z]; exact vmin_r _ _
      constructor
      · rw [eD, dJ_s, if_pos z, ← h1, h2, vdist', vmin_c, vmin_c (vadd (dA nx c ab k) (ju k)) (vadd (dD nx c co ab ju k) (ju k)), ← vmin_as, vmin_ab hle]
      · rw [eS, eA, eD, h2, h k z]
        generalize dA nx c ab k = A
        generalize dD nx c co ab ju k = E
        generalize ab k = x
        generalize ju k = y
        rw [vdist', vdist, vmin_as]
    · have eD : dD nx c co ab ju (k + 1) = dD nx c co ab ju k := by
        show (if nx k = some c then _ else _) = _
        rw [if_neg z]
      have eS : dS nx c co (k + 1) = dS nx c co k := by
        show vadd (dS nx c co k) (if nx k = some c then co k else some (0, 0)) = _
        rw [if_neg z, vadd_z]
      have eA : dA nx c ab (k + 1) = dA nx c ab k := by
        show vadd (dA nx c ab k) (if nx k = some c then ab k else some (0, 0)) = _
        rw [if_neg z, vadd_z]
      rw [eD, eS, eA, dJ_s, if_neg z]
      exact ⟨h1, h2⟩
end
/-! keys are bounded -/
def vk (o : VV) (B : Nat) : Prop := ∀ x, o = some x → x.2 ≤ B
theorem vk_none (B : Nat) : vk none B := fun x h => by cases h
theorem vk_min {x y : VV} {B : Nat} (h1 : vk x B) (h2 : vk y B) : vk (vmin x y) B := by
  rcases vmin_or x y with q | q <;> rw [q]
  · exact h1
  · exact h2
theorem vk_add {x y : VV} {A B : Nat} (h1 : vk x A) (h2 : vk y B) : vk (vadd x y) (A + B) := by
  intro z hz
  obtain ⟨a, b, e1, e2, e3⟩ := vadd_some hz
  have := h1 a e1
  have := h2 b e2
  rw [e3]
  show a.2 + b.2 ≤ _
  omega
theorem vk_mono {x : VV} {A B : Nat} (h : vk x A) (q : A ≤ B) : vk x B := fun z hz => Nat.le_trans (h z hz) q
theorem vk_mn {f : Nat → VV} {B : Nat} : ∀ n, (∀ i, i < n → vk (f i) B) → vk (vmn f n) B := by
  intro n h x hx
  obtain ⟨i, h1, h2⟩ := vmn_in n x hx
  exact h i h1 x h2
theorem vk_sm {f : Nat → VV} {g : Nat → Nat} : ∀ n, (∀ i, i < n → vk (f i) (g i)) → vk (vsm f n) (sm g n) := by
  intro n
  induction n with
  | zero => intro _ x hx; cases hx; exact Nat.le_refl _
  | succ n ih => intro h; exact vk_add (ih (fun i hi => h i (by omega))) (h n (by omega))
