/-! VALUES: a cost and a key, or none; and what is least over branches -/
abbrev VV : Type := Option (Nat × Nat)
abbrev vlt (x y : Nat × Nat) : Prop := x.1 < y.1 ∨ x.1 = y.1 ∧ x.2 < y.2
def vmin : VV → VV → VV
  | none, y => y
  | some x, none => some x
  | some x, some y => if vlt y x then some y else some x
def vadd : VV → VV → VV
  | some x, some y => some (x.1 + y.1, x.2 + y.2)
  | _, _ => none
def vmn (f : Nat → VV) : Nat → VV
  | 0 => none
  | n + 1 => vmin (vmn f n) (f n)
def vsm (f : Nat → VV) : Nat → VV
  | 0 => some (0, 0)
  | n + 1 => vadd (vsm f n) (f n)
theorem vmin_n (x : VV) : vmin x none = x := by cases x <;> rfl
theorem vadd_n (x : VV) : vadd x none = none := by cases x <;> rfl
theorem vmn_cg {f g : Nat → VV} : ∀ n, (∀ i, i < n → f i = g i) → vmn f n = vmn g n := by
  intro n
  induction n with
  | zero => intro _; rfl
  | succ n ih =>
    intro h
    show vmin (vmn f n) (f n) = vmin (vmn g n) (g n)
    rw [ih (fun i hi => h i (by omega)), h n (by omega)]
theorem vsm_cg {f g : Nat → VV} : ∀ n, (∀ i, i < n → f i = g i) → vsm f n = vsm g n := by
  intro n
  induction n with
  | zero => intro _; rfl
  | succ n ih =>
    intro h
    show vadd (vsm f n) (f n) = vadd (vsm g n) (g n)
    rw [ih (fun i hi => h i (by omega)), h n (by omega)]
/-- no more than -/
def vle (x y : VV) : Prop := ∀ b, y = some b → ∃ a, x = some a ∧ ¬ vlt b a
theorem vlt_irr (x : Nat × Nat) : ¬ vlt x x := by
  rintro (h | ⟨-, h⟩) <;> omega
theorem vlt_tr {x y z : Nat × Nat} (h1 : vlt x y) (h2 : vlt y z) : vlt x z := by
  unfold vlt at *; omega
theorem vle_tr' {x y z : Nat × Nat} (h1 : ¬ vlt y x) (h2 : ¬ vlt z y) : ¬ vlt z x := by
  unfold vlt at *; omega
theorem vle_as {x y : Nat × Nat} (h1 : ¬ vlt y x) (h2 : ¬ vlt x y) : x = y := by
  have : x.1 = y.1 ∧ x.2 = y.2 := by unfold vlt at *; omega
  exact Prod.ext this.1 this.2
theorem vle_rfl (x : VV) : vle x x := fun b hb => ⟨b, hb, vlt_irr b⟩
theorem vle_none (x : VV) : vle x none := fun b hb => by cases hb
theorem vle_tr {x y z : VV} (h1 : vle x y) (h2 : vle y z) : vle x z := by
  intro c hc
  obtain ⟨b, hb, q1⟩ := h2 c hc
  obtain ⟨a, ha, q2⟩ := h1 b hb
  exact ⟨a, ha, vle_tr' q2 q1⟩
theorem vmin_l (x y : VV) : vle (vmin x y) x := by
  cases x with
  | none => exact vle_none _
  | some x =>
    cases y with
    | none => exact vle_rfl _
    | some y =>
      show vle (if vlt y x then some y else some x) _
      by_cases q : vlt y x
      · rw [if_pos q]
        intro b hb; cases hb
        exact ⟨y, rfl, fun z => vlt_irr _ (vlt_tr z q)⟩
      · rw [if_neg q]; exact vle_rfl _
theorem vmin_r (x y : VV) : vle (vmin x y) y := by
  cases x with
  | none => exact vle_rfl _
  | some x =>
    cases y with
    | none => exact vle_none _
    | some y =>
      show vle (if vlt y x then some y else some x) _
      by_cases q : vlt y x
      · rw [if_pos q]; exact vle_rfl _
      · rw [if_neg q]
        intro b hb; cases hb
        exact ⟨x, rfl, q⟩
theorem vmin_or (x y : VV) : vmin x y = x ∨ vmin x y = y := by
  cases x with
  | none => exact Or.inr rfl
  | some x =>
    cases y with
    | none => exact Or.inl rfl
    | some y =>
      show (if vlt y x then some y else some x) = _ ∨ (if vlt y x then some y else some x) = _
      by_cases q : vlt y x
      · rw [if_pos q]; exact Or.inr rfl
      · rw [if_neg q]; exact Or.inl rfl
theorem vmn_le {f : Nat → VV} : ∀ n i, i < n → vle (vmn f n) (f i) := by
  intro n
  induction n with
  | zero => intro i hi; omega
  | succ n ih =>
    intro i hi
    by_cases q : i = n
    · rw [q]; exact vmin_r _ _
    · exact vle_tr (vmin_l _ _) (ih i (by omega))
theorem vmn_in {f : Nat → VV} : ∀ n x, vmn f n = some x → ∃ i, i < n ∧ f i = some x := by
  intro n
  induction n with
  | zero => intro x h; cases h
  | succ n ih =>
    intro x h
    have h : vmin (vmn f n) (f n) = some x := h
    rcases vmin_or (vmn f n) (f n) with q | q
    · rw [q] at h
      obtain ⟨i, h1, h2⟩ := ih x h
      exact ⟨i, by omega, h2⟩
    · rw [q] at h; exact ⟨n, by omega, h⟩
theorem vadd_some {x y : VV} {z : Nat × Nat} (h : vadd x y = some z) : ∃ a b, x = some a ∧ y = some b ∧ z = (a.1 + b.1, a.2 + b.2) := by
  cases x with
  | none => cases h
  | some a =>
    cases y with
    | none => cases h
    | some b => cases h; exact ⟨a, b, rfl, rfl, rfl⟩
theorem vadd_le {x y x' y' : VV} (h1 : vle x x') (h2 : vle y y') : vle (vadd x y) (vadd x' y') := by
  intro z hz
  obtain ⟨a, b, e1, e2, e3⟩ := vadd_some hz
  obtain ⟨a', f1, g1⟩ := h1 a e1
  obtain ⟨b', f2, g2⟩ := h2 b e2
  refine ⟨(a'.1 + b'.1, a'.2 + b'.2), by rw [f1, f2]; rfl, ?_⟩
  rw [e3]
  unfold vlt at *
  show ¬ (a.1 + b.1 < a'.1 + b'.1 ∨ a.1 + b.1 = a'.1 + b'.1 ∧ a.2 + b.2 < a'.2 + b'.2)
  omega
theorem vsm_le {f g : Nat → VV} : ∀ n, (∀ i, i < n → vle (f i) (g i)) → vle (vsm f n) (vsm g n) := by
  intro n
  induction n with
  | zero => intro _; exact vle_rfl _
  | succ n ih => intro h; exact vadd_le (ih (fun i hi => h i (by omega))) (h n (by omega))
theorem vsm_in {f : Nat → VV} : ∀ n x, vsm f n = some x → ∀ i, i < n → ∃ y, f i = some y := by
  intro n
  induction n with
  | zero => intro x _ i hi; omega
  | succ n ih =>
    intro x h i hi
    obtain ⟨a, b, e1, e2, -⟩ := vadd_some (show vadd (vsm f n) (f n) = some x from h)
    by_cases q : i = n
    · rw [q]; exact ⟨b, e2⟩
    · exact ih a e1 i (by omega)
/-- cost bounded -/
def vb (o : VV) (B : Nat) : Prop := ∀ x, o = some x → x.1 ≤ B
theorem vb_none (B : Nat) : vb none B := fun x h => by cases h
theorem vb_min {x y : VV} {B : Nat} (h1 : vb x B) (h2 : vb y B) : vb (vmin x y) B := by
  rcases vmin_or x y with q | q <;> rw [q]
  · exact h1
  · exact h2
theorem vb_add {x y : VV} {A B : Nat} (h1 : vb x A) (h2 : vb y B) : vb (vadd x y) (A + B) := by
  intro z hz
  obtain ⟨a, b, e1, e2, e3⟩ := vadd_some hz
  have := h1 a e1
  have := h2 b e2
  rw [e3]
  show a.1 + b.1 ≤ _
  omega
theorem vb_mono {x : VV} {A B : Nat} (h : vb x A) (q : A ≤ B) : vb x B := fun z hz => Nat.le_trans (h z hz) q
theorem vb_mn {f : Nat → VV} {B : Nat} : ∀ n, (∀ i, i < n → vb (f i) B) → vb (vmn f n) B := by
  intro n h x hx
  obtain ⟨i, h1, h2⟩ := vmn_in n x hx
  exact h i h1 x h2
theorem vb_sm {f : Nat → VV} {g : Nat → Nat} : ∀ n, (∀ i, i < n → vb (f i) (g i)) → vb (vsm f n) (sm g n) := by
  intro n
  induction n with
  | zero => intro _ x hx; cases hx; exact Nat.le_refl _
  | succ n ih => intro h; exact vb_add (ih (fun i hi => h i (by omega))) (h n (by omega))
/-! branches -/
abbrev DPr : Type := Nat × Nat × (Nat → Option Nat) × (Nat → Nat → Nat → Nat → VV) × (Nat → Nat → VV)
abbrev Tbl : Type := Nat → Nat → Nat → VV
def dpn (p : DPr) : Nat := p.1
def dph (p : DPr) : Nat := p.2.1
def dpx (p : DPr) : Nat → Option Nat := p.2.2.1
def dpo (p : DPr) : Nat → Nat → Nat → Nat → VV := p.2.2.2.1
def dpp (p : DPr) : Nat → Nat → VV := p.2.2.2.2
def comT (T : Tbl) (o w m : Nat) : VV := vmn (fun v => vmn (fun b => T o v b) (m + 1)) (w + 1)
def cmjT (T : Tbl) (o w m : Nat) : VV := vmn (fun v => T o v m) (w + 1)
def chsT (p : DPr) (T : Tbl) (c w m : Nat) : VV := vsm (fun o => if dpx p o = some c then comT T o w m else some (0, 0)) (dpn p)
def ch1T (p : DPr) (T : Tbl) (c w m q : Nat) : VV := vsm (fun o => if dpx p o = some c then (if o = q then cmjT T o w m else comT T o w m) else some (0, 0)) (dpn p)
def chjT (p : DPr) (T : Tbl) (c w m : Nat) : VV := vmn (fun q => if dpx p q = some c then ch1T p T c w m q else none) (dpn p)
def behT (p : DPr) (T : Tbl) (c w a : Nat) : VV := vmin (chsT p T c w a) (vmn (fun m => if a < m then vadd (dpp p c (m - a)) (chjT p T c w m) else none) (dph p + 1))
def layT (p : DPr) (T : Tbl) (c w b : Nat) : VV := vmn (fun a => vadd (behT p T c w a) (dpo p c w a b)) (dph p + 1)
def lw (p : DPr) : Nat → Tbl
  | 0 => fun _ _ _ => none
  | d + 1 => layT p (lw p d)
section
variable {p : DPr} {T T' : Tbl}
theorem comT_cg {o : Nat} (h : ∀ v b, T o v b = T' o v b) (w m : Nat) : comT T o w m = comT T' o w m := vmn_cg _ (fun v _ => vmn_cg _ (fun b _ => h v b))
theorem cmjT_cg {o : Nat} (h : ∀ v b, T o v b = T' o v b) (w m : Nat) : cmjT T o w m = cmjT T' o w m := vmn_cg _ (fun v _ => h v m)
theorem chsT_cg {c : Nat} (h : ∀ o, o < dpn p → dpx p o = some c → ∀ v b, T o v b = T' o v b) (w m : Nat) : chsT p T c w m = chsT p T' c w m := by
  refine vsm_cg _ (fun o ho => ?_)
  by_cases q : dpx p o = some c
  · rw [if_pos q, if_pos q, comT_cg (h o ho q)]
  · rw [if_neg q, if_neg q]
theorem chjT_cg {c : Nat} (h : ∀ o, o < dpn p → dpx p o = some c → ∀ v b, T o v b = T' o v b) (w m : Nat) : chjT p T c w m = chjT p T' c w m := by
  refine vmn_cg _ (fun z hz => ?_)
  by_cases q : dpx p z = some c
  · rw [if_pos q, if_pos q]
    refine vsm_cg _ (fun o ho => ?_)
    by_cases q : dpx p o = some c
    · rw [if_pos q, if_pos q, comT_cg (h o ho q), cmjT_cg (h o ho q)]
    · rw [if_neg q, if_neg q]
  · rw [if_neg q, if_neg q]
theorem behT_cg {c : Nat} (h : ∀ o, o < dpn p → dpx p o = some c → ∀ v b, T o v b = T' o v b) (w a : Nat) : behT p T c w a = behT p T' c w a := by
  unfold behT
  rw [chsT_cg h]
  congr 1
  refine vmn_cg _ (fun m hm => ?_)
  rw [chjT_cg h]
theorem layT_cg {c : Nat} (h : ∀ o, o < dpn p → dpx p o = some c → ∀ v b, T o v b = T' o v b) (w b : Nat) : layT p T c w b = layT p T' c w b :=
  vmn_cg _ (fun a _ => by rw [behT_cg h])
/-- deep enough is deep enough -/
theorem lw_st : ∀ d e c, Hd (dpx p) (dpn p) d c → Hd (dpx p) (dpn p) e c → ∀ v b, lw p d c v b = lw p e c v b := by
  intro d
  induction d with
  | zero => intro e c h; exact h.elim
  | succ d ih =>
    intro e c h1 h2 v b
    cases e with
    | zero => exact h2.elim
    | succ e => exact layT_cg (fun o ho hx => ih e o (h1 o ho hx) (h2 o ho hx)) v b
end
